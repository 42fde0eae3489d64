theorem fl_RX6_62 : gFl RX6 62 6 5 := ⟨RX6, TX6, 10, rfl, by decide, ux_6, Or.inl (gm 252 (by decide +kernel) rfl)⟩
theorem fl_RX6_15 : gFl RX6 15 6 2 := ⟨RX6, TX6, 10, rfl, by decide, ux_6, Or.inl (gm 249 (by decide +kernel) rfl)⟩
theorem fl_RX6_84 : gFl RX6 84 6 7 := ⟨RX6, TX6, 10, rfl, by decide, ux_6, Or.inl (gm 254 (by decide +kernel) rfl)⟩
theorem fp_RX6_62 : gFp RX6 62 6 5 .int := ⟨RX6, TX6, 10, rfl, by decide, ux_6, Or.inl (gm 252 (by decide +kernel) rfl), rfl, by decide +kernel, ⟨tyX6, tyX6_ok⟩, nmX6⟩
theorem fp_RX6_84 : gFp RX6 84 6 7 .int := ⟨RX6, TX6, 10, rfl, by decide, ux_6, Or.inl (gm 254 (by decide +kernel) rfl), rfl, by decide +kernel, ⟨tyX6, tyX6_ok⟩, nmX6⟩
theorem fl_RX6_53 : gFl RX6 53 6 4 := ⟨RX6, TX6, 10, rfl, by decide, ux_6, Or.inl (gm 251 (by decide +kernel) rfl)⟩
theorem fl_RX6_68 : gFl RX6 68 6 6 := ⟨RX6, TX6, 10, rfl, by decide, ux_6, Or.inl (gm 253 (by decide +kernel) rfl)⟩
theorem fp_RX6_53 : gFp RX6 53 6 4 .int := ⟨RX6, TX6, 10, rfl, by decide, ux_6, Or.inl (gm 251 (by decide +kernel) rfl), rfl, by decide +kernel, ⟨tyX6, tyX6_ok⟩, nmX6⟩
def mX6_letters : gM := (yX6_letters, cX6_letters, RX6, 2, none, 1, 21)
theorem dX6_letters_0 : decode mX6_letters.2.1 0 = .ok (.aload_n 0, 1) := by decide +kernel
theorem dX6_letters_1 : decode mX6_letters.2.1 1 = .ok (.iconst 0, 1) := by decide +kernel
theorem dX6_letters_2 : decode mX6_letters.2.1 2 = .ok (.putfield 84, 3) := by decide +kernel
theorem dX6_letters_5 : decode mX6_letters.2.1 5 = .ok (.aload_n 0, 1) := by decide +kernel
theorem dX6_letters_6 : decode mX6_letters.2.1 6 = .ok (.getfield 53, 3) := by decide +kernel
theorem dX6_letters_9 : decode mX6_letters.2.1 9 = .ok (.aload_n 0, 1) := by decide +kernel
theorem dX6_letters_10 : decode mX6_letters.2.1 10 = .ok (.getfield 47, 3) := by decide +kernel
theorem dX6_letters_13 : decode mX6_letters.2.1 13 = .ok (.if_icmp .ge 47, 3) := by decide +kernel
theorem dX6_letters_16 : decode mX6_letters.2.1 16 = .ok (.aload_n 0, 1) := by decide +kernel
theorem dX6_letters_17 : decode mX6_letters.2.1 17 = .ok (.aload_n 0, 1) := by decide +kernel
theorem dX6_letters_18 : decode mX6_letters.2.1 18 = .ok (.getfield 53, 3) := by decide +kernel
theorem dX6_letters_21 : decode mX6_letters.2.1 21 = .ok (.invokevirtual 71, 3) := by decide +kernel
theorem dX6_letters_24 : decode mX6_letters.2.1 24 = .ok (.ifCond .eq 36, 3) := by decide +kernel
theorem dX6_letters_27 : decode mX6_letters.2.1 27 = .ok (.aload_n 0, 1) := by decide +kernel
theorem dX6_letters_28 : decode mX6_letters.2.1 28 = .ok (.aload_n 0, 1) := by decide +kernel
theorem dX6_letters_29 : decode mX6_letters.2.1 29 = .ok (.getfield 84, 3) := by decide +kernel
theorem dX6_letters_32 : decode mX6_letters.2.1 32 = .ok (.aload_n 0, 1) := by decide +kernel
theorem dX6_letters_33 : decode mX6_letters.2.1 33 = .ok (.getfield 11, 3) := by decide +kernel
theorem dX6_letters_36 : decode mX6_letters.2.1 36 = .ok (.aload_n 0, 1) := by decide +kernel
theorem dX6_letters_37 : decode mX6_letters.2.1 37 = .ok (.getfield 53, 3) := by decide +kernel
theorem dX6_letters_40 : decode mX6_letters.2.1 40 = .ok (.baload, 1) := by decide +kernel
theorem dX6_letters_41 : decode mX6_letters.2.1 41 = .ok (.invokestatic 43, 3) := by decide +kernel
theorem dX6_letters_44 : decode mX6_letters.2.1 44 = .ok (.putfield 84, 3) := by decide +kernel
theorem dX6_letters_47 : decode mX6_letters.2.1 47 = .ok (.aload_n 0, 1) := by decide +kernel
theorem dX6_letters_48 : decode mX6_letters.2.1 48 = .ok (.dup, 1) := by decide +kernel
theorem dX6_letters_49 : decode mX6_letters.2.1 49 = .ok (.getfield 53, 3) := by decide +kernel
theorem dX6_letters_52 : decode mX6_letters.2.1 52 = .ok (.iconst 1, 1) := by decide +kernel
theorem dX6_letters_53 : decode mX6_letters.2.1 53 = .ok (.iadd, 1) := by decide +kernel
theorem dX6_letters_54 : decode mX6_letters.2.1 54 = .ok (.putfield 53, 3) := by decide +kernel
theorem dX6_letters_57 : decode mX6_letters.2.1 57 = .ok (.goto (-52), 3) := by decide +kernel
theorem dX6_letters_60 : decode mX6_letters.2.1 60 = .ok (.aload_n 0, 1) := by decide +kernel
theorem dX6_letters_61 : decode mX6_letters.2.1 61 = .ok (.aload_n 0, 1) := by decide +kernel
theorem dX6_letters_62 : decode mX6_letters.2.1 62 = .ok (.getfield 53, 3) := by decide +kernel
theorem dX6_letters_65 : decode mX6_letters.2.1 65 = .ok (.aload_n 0, 1) := by decide +kernel
theorem dX6_letters_66 : decode mX6_letters.2.1 66 = .ok (.getfield 68, 3) := by decide +kernel
theorem dX6_letters_69 : decode mX6_letters.2.1 69 = .ok (.isub, 1) := by decide +kernel
theorem dX6_letters_70 : decode mX6_letters.2.1 70 = .ok (.bipush 6, 2) := by decide +kernel
theorem dX6_letters_72 : decode mX6_letters.2.1 72 = .ok (.if_icmp .le 7, 3) := by decide +kernel
theorem dX6_letters_75 : decode mX6_letters.2.1 75 = .ok (.iconst 1, 1) := by decide +kernel
theorem dX6_letters_76 : decode mX6_letters.2.1 76 = .ok (.goto 4, 3) := by decide +kernel
theorem dX6_letters_79 : decode mX6_letters.2.1 79 = .ok (.iconst 3, 1) := by decide +kernel
theorem dX6_letters_80 : decode mX6_letters.2.1 80 = .ok (.putfield 62, 3) := by decide +kernel
theorem dX6_letters_83 : decode mX6_letters.2.1 83 = .ok (.iconst 0, 1) := by decide +kernel
theorem dX6_letters_84 : decode mX6_letters.2.1 84 = .ok (.istore_n 1, 1) := by decide +kernel
theorem dX6_letters_85 : decode mX6_letters.2.1 85 = .ok (.iload_n 1, 1) := by decide +kernel
theorem dX6_letters_86 : decode mX6_letters.2.1 86 = .ok (.bipush 12, 2) := by decide +kernel
theorem dX6_letters_88 : decode mX6_letters.2.1 88 = .ok (.if_icmp .ge 40, 3) := by decide +kernel
theorem dX6_letters_91 : decode mX6_letters.2.1 91 = .ok (.aload_n 0, 1) := by decide +kernel
theorem dX6_letters_92 : decode mX6_letters.2.1 92 = .ok (.getfield 62, 3) := by decide +kernel
theorem dX6_letters_95 : decode mX6_letters.2.1 95 = .ok (.iconst 3, 1) := by decide +kernel
theorem dX6_letters_96 : decode mX6_letters.2.1 96 = .ok (.if_icmp .ne 32, 3) := by decide +kernel
theorem dX6_letters_99 : decode mX6_letters.2.1 99 = .ok (.aload_n 0, 1) := by decide +kernel
theorem dX6_letters_100 : decode mX6_letters.2.1 100 = .ok (.getfield 15, 3) := by decide +kernel
theorem dX6_letters_103 : decode mX6_letters.2.1 103 = .ok (.iload_n 1, 1) := by decide +kernel
theorem dX6_letters_104 : decode mX6_letters.2.1 104 = .ok (.iaload, 1) := by decide +kernel
theorem dX6_letters_105 : decode mX6_letters.2.1 105 = .ok (.aload_n 0, 1) := by decide +kernel
theorem dX6_letters_106 : decode mX6_letters.2.1 106 = .ok (.getfield 84, 3) := by decide +kernel
theorem dX6_letters_109 : decode mX6_letters.2.1 109 = .ok (.if_icmp .ne 13, 3) := by decide +kernel
theorem dX6_letters_112 : decode mX6_letters.2.1 112 = .ok (.aload_n 0, 1) := by decide +kernel
theorem dX6_letters_113 : decode mX6_letters.2.1 113 = .ok (.iconst 2, 1) := by decide +kernel
theorem dX6_letters_114 : decode mX6_letters.2.1 114 = .ok (.putfield 62, 3) := by decide +kernel
theorem dX6_letters_117 : decode mX6_letters.2.1 117 = .ok (.aload_n 0, 1) := by decide +kernel
theorem dX6_letters_118 : decode mX6_letters.2.1 118 = .ok (.iload_n 1, 1) := by decide +kernel
theorem dX6_letters_119 : decode mX6_letters.2.1 119 = .ok (.putfield 84, 3) := by decide +kernel
theorem dX6_letters_122 : decode mX6_letters.2.1 122 = .ok (.iinc 1 1, 3) := by decide +kernel
theorem dX6_letters_125 : decode mX6_letters.2.1 125 = .ok (.goto (-40), 3) := by decide +kernel
theorem dX6_letters_128 : decode mX6_letters.2.1 128 = .ok (.return_, 1) := by decide +kernel
theorem okX6_letters_71 : gOkV mX6_letters mX6_isLetterAt 71 1 := ⟨List.forall_mem_cons.mpr ⟨(gm 595 (by decide +kernel) rfl), List.forall_mem_cons.mpr ⟨(gm 592 (by decide +kernel) rfl), List.forall_mem_cons.mpr ⟨(gm 594 (by decide +kernel) rfl), List.forall_mem_cons.mpr ⟨(gm 1 (by decide +kernel) rfl), List.forall_mem_cons.mpr ⟨(gm 108 (by decide +kernel) rfl), fun _ h => absurd h List.not_mem_nil⟩⟩⟩⟩⟩, by decide +kernel, by decide +kernel, by decide +kernel⟩
theorem okX6_letters_43 : gOkS mX6_letters mX6_withLetter 43 2 := ⟨List.forall_mem_cons.mpr ⟨(gm 245 (by decide +kernel) rfl), List.forall_mem_cons.mpr ⟨(gm 243 (by decide +kernel) rfl), List.forall_mem_cons.mpr ⟨(gm 244 (by decide +kernel) rfl), List.forall_mem_cons.mpr ⟨(gm 108 (by decide +kernel) rfl), fun _ h => absurd h List.not_mem_nil⟩⟩⟩⟩, by decide +kernel, by decide +kernel, by decide +kernel⟩
def fX6_letters_122 (k85 : Int32 → gS → Option (Unit × gS)) (v1 : Int32) (σ : gS) : Option (Unit × gS) :=
  bnd (v1 + 1) fun x1 =>
  k85 x1 σ
set_option maxHeartbeats 4000000 in
set_option maxRecDepth 100000 in
theorem pX6_letters_122 {E : gE} {k85 : Int32 → gS → Option (Unit × gS)} {r : Unit} {σ' : gS} {v1 : Int32} {σ : gS} (hk85 : ∀ (v1 : Int32) (σ : gS), k85 v1 σ = some (r, σ') → gG E mX6_letters 85 [(0, .ref 1), (1, .int v1)] [] σ (none) σ') (h : fX6_letters_122 k85 v1 σ = some (r, σ')) : gG E mX6_letters 122 [(0, .ref 1), (1, .int v1)] [] σ (none) σ' := by
  unfold fX6_letters_122 at h
  obtain ⟨x1, ex1, h⟩ := bnd_nm h
  refine g_iinc (j := 1) (v := x1) (lv' := [(1, .int x1), (0, .ref 1)]) dX6_letters_122 rfl (by rw [ex1]; rfl) (Nat.le_of_ble_eq_true rfl) rfl ?_
  refine g_goto (t := 85) dX6_letters_125 (by decide) ?_
  refine g_sub [1, 0] rfl ?_
  exact hk85 x1 σ h
def fX6_letters_128 (σ : gS) : Option (Unit × gS) :=
  some ((), σ)
set_option maxHeartbeats 4000000 in
set_option maxRecDepth 100000 in
theorem pX6_letters_128 {E : gE} {r : Unit} {σ' : gS} {σ : gS} (h : fX6_letters_128 σ = some (r, σ')) : gG E mX6_letters 128 [] [] σ (none) σ' := by
  unfold fX6_letters_128 at h
  obtain ⟨rfl, rfl⟩ := so_inj h
  exact g_vret dX6_letters_128 rfl
def fX6_letters_85 : Nat → Int32 → gS → Option (Unit × gS)
  | 0, _, _ => none
  | n + 1, v1, σ => if 12 ≤ v1 then
    fX6_letters_128 σ
  else
    if (σ.1 1 5) = 3 then
      gg (¬ (v1 < 0 ∨ 12 ≤ v1.toNatClampNeg)) (
      if (σ.1 3 v1.toNatClampNeg) = (σ.1 1 7) then
        bnd (gsI σ 1 5 2) fun σ5 =>
        bnd (gsI σ5 1 7 v1) fun σ6 =>
        fX6_letters_122 (fun v1 σ => fX6_letters_85 n v1 σ) v1 σ6
      else
        fX6_letters_122 (fun v1 σ => fX6_letters_85 n v1 σ) v1 σ)
    else
      fX6_letters_128 σ
set_option maxHeartbeats 4000000 in
set_option maxRecDepth 100000 in
theorem pX6_letters_85 {E : gE} {r : Unit} {σ' : gS} : ∀ (n : Nat) (v1 : Int32) (σ : gS), fX6_letters_85 n v1 σ = some (r, σ') → gG E mX6_letters 85 [(0, .ref 1), (1, .int v1)] [] σ (none) σ' := by
  intro n
  induction n with
  | zero => intro v1 σ h; exact absurd (show none = some (r, σ') from h) (by intro q; cases q)
  | succ n ih =>
  intro v1 σ h
  unfold fX6_letters_85 at h
  refine g_iload_n dX6_letters_85 rfl 1 rfl ?_
  refine g_bipush (v := 12) dX6_letters_86 (by decide) ?_
  refine g_icmp_ge (t := 128) dX6_letters_88 (by decide) (fun c1 => ?_) (fun c1 => ?_)
  · replace h := if_t h c1
    refine g_sub [] rfl ?_
    exact pX6_letters_128 h
  · replace h := if_f h c1
    refine g_aload_n dX6_letters_91 rfl 0 rfl ?_
    refine g_getI dX6_letters_92 gi_1 rfl fl_RX6_62 ?_
    refine g_iconst (v := 3) dX6_letters_95 (by decide) ?_
    refine g_icmp_ne (t := 128) dX6_letters_96 (by decide) (fun c2 => ?_) (fun c2 => ?_)
    · replace h := if_f h c2
      refine g_sub [] rfl ?_
      exact pX6_letters_128 h
    · replace h := if_t h c2
      refine g_aload_n dX6_letters_99 rfl 0 rfl ?_
      refine g_getC (n := 3) dX6_letters_100 gi_1 rfl fl_RX6_15 ?_
      refine g_iload_n dX6_letters_103 rfl 1 rfl ?_
      obtain ⟨g3, h⟩ := gg_some h
      refine g_iald dX6_letters_104 gi_3 g3 ?_
      refine g_aload_n dX6_letters_105 rfl 0 rfl ?_
      refine g_getI dX6_letters_106 gi_1 rfl fl_RX6_84 ?_
      refine g_icmp_ne (t := 122) dX6_letters_109 (by decide) (fun c4 => ?_) (fun c4 => ?_)
      · replace h := if_f h c4
        exact pX6_letters_122 (fun v1 σ h => ih v1 σ h) h
      · replace h := if_t h c4
        refine g_aload_n dX6_letters_112 rfl 0 rfl ?_
        refine g_iconst (v := 2) dX6_letters_113 (by decide) ?_
        obtain ⟨σ5, eσ5, h⟩ := bnd_nm h
        refine g_putI dX6_letters_114 gi_1 rfl fp_RX6_62 (g_st eσ5 ?_)
        refine g_aload_n dX6_letters_117 rfl 0 rfl ?_
        refine g_iload_n dX6_letters_118 rfl 1 rfl ?_
        obtain ⟨σ6, eσ6, h⟩ := bnd_nm h
        refine g_putI dX6_letters_119 gi_1 rfl fp_RX6_84 (g_st eσ6 ?_)
        exact pX6_letters_122 (fun v1 σ h => ih v1 σ h) h
def fX6_letters_80 (s1 : Int32) (σ : gS) : Option (Unit × gS) :=
  bnd (gsI σ 1 5 s1) fun σ1 =>
  fX6_letters_85 2000 0 σ1
set_option maxHeartbeats 4000000 in
set_option maxRecDepth 100000 in
theorem pX6_letters_80 {E : gE} {r : Unit} {σ' : gS} {s1 : Int32} {σ : gS} (h : fX6_letters_80 s1 σ = some (r, σ')) : gG E mX6_letters 80 [(0, .ref 1)] [.int s1, .ref 1] σ (none) σ' := by
  unfold fX6_letters_80 at h
  obtain ⟨σ1, eσ1, h⟩ := bnd_nm h
  refine g_putI dX6_letters_80 gi_1 rfl fp_RX6_62 (g_st eσ1 ?_)
  refine g_iconst (v := 0) dX6_letters_83 (by decide) ?_
  refine g_istore_n (lv' := [(1, .int 0), (0, .ref 1)]) dX6_letters_84 rfl (Nat.le_of_ble_eq_true rfl) rfl ?_
  refine g_sub [1, 0] rfl ?_
  exact pX6_letters_85 2000 0 σ1 h
def fX6_letters_60 (σ : gS) : Option (Unit × gS) :=
  if ((σ.1 1 4) - (σ.1 1 6)) ≤ 6 then
    fX6_letters_80 3 σ
  else
    fX6_letters_80 1 σ
set_option maxHeartbeats 4000000 in
set_option maxRecDepth 100000 in
theorem pX6_letters_60 {E : gE} {r : Unit} {σ' : gS} {σ : gS} (h : fX6_letters_60 σ = some (r, σ')) : gG E mX6_letters 60 [(0, .ref 1)] [] σ (none) σ' := by
  unfold fX6_letters_60 at h
  refine g_aload_n dX6_letters_60 rfl 0 rfl ?_
  refine g_aload_n dX6_letters_61 rfl 0 rfl ?_
  refine g_getI dX6_letters_62 gi_1 rfl fl_RX6_53 ?_
  refine g_aload_n dX6_letters_65 rfl 0 rfl ?_
  refine g_getI dX6_letters_66 gi_1 rfl fl_RX6_68 ?_
  refine g_isub dX6_letters_69 ?_
  refine g_bipush (v := 6) dX6_letters_70 (by decide) ?_
  refine g_icmp_le (t := 79) dX6_letters_72 (by decide) (fun c1 => ?_) (fun c1 => ?_)
  · replace h := if_t h c1
    refine g_iconst (v := 3) dX6_letters_79 (by decide) ?_
    exact pX6_letters_80 h
  · replace h := if_f h c1
    refine g_iconst (v := 1) dX6_letters_75 (by decide) ?_
    refine g_goto (t := 80) dX6_letters_76 (by decide) ?_
    exact pX6_letters_80 h
def fX6_letters_5 : Nat → gS → Option (Unit × gS)
  | 0, _ => none
  | n + 1, σ => if (σ.1 1 1) ≤ (σ.1 1 4) then
    fX6_letters_60 σ
  else
    bd (fX6_isLetterAt (σ.1 1 4) σ) fun x2 σ3 =>
    if x2 = 0 then
      fX6_letters_60 σ3
    else
      gg (¬ (σ3.1 1 4 < 0 ∨ 1200 ≤ (σ3.1 1 4).toNatClampNeg)) (
      bd (fX6_withLetter (σ3.1 1 7) (σ3.1 2 ((σ3.1 1 4).toNatClampNeg)) σ3) fun x7 σ8 =>
      bnd (gsI σ8 1 7 x7) fun σ10 =>
      bnd (gsI σ10 1 4 ((σ10.1 1 4) + 1)) fun σ11 =>
      fX6_letters_5 n σ11)
set_option maxHeartbeats 4000000 in
set_option maxRecDepth 100000 in
theorem pX6_letters_5 {E : gE} {r : Unit} {σ' : gS} : ∀ (n : Nat) (σ : gS), fX6_letters_5 n σ = some (r, σ') → gG E mX6_letters 5 [(0, .ref 1)] [] σ (none) σ' := by
  intro n
  induction n with
  | zero => intro σ h; exact absurd (show none = some (r, σ') from h) (by intro q; cases q)
  | succ n ih =>
  intro σ h
  unfold fX6_letters_5 at h
  refine g_aload_n dX6_letters_5 rfl 0 rfl ?_
  refine g_getI dX6_letters_6 gi_1 rfl fl_RX6_53 ?_
  refine g_aload_n dX6_letters_9 rfl 0 rfl ?_
  refine g_getI dX6_letters_10 gi_1 rfl fl_RX6_47 ?_
  refine g_icmp_ge (t := 60) dX6_letters_13 (by decide) (fun c1 => ?_) (fun c1 => ?_)
  · replace h := if_t h c1
    exact pX6_letters_60 h
  · replace h := if_f h c1
    refine g_aload_n dX6_letters_16 rfl 0 rfl ?_
    refine g_aload_n dX6_letters_17 rfl 0 rfl ?_
    refine g_getI dX6_letters_18 gi_1 rfl fl_RX6_53 ?_
    obtain ⟨x2, σ3, y4, h⟩ := bd_some h
    refine g_callVr (as := [.int (σ.1 1 4)]) (st := []) (zX6_isLetterAt y4) dX6_letters_21 gi_1 rfl okX6_letters_71 (Nat.le_of_ble_eq_true rfl) ?_
    refine g_if_eq (t := 60) dX6_letters_24 (by decide) (fun c5 => ?_) (fun c5 => ?_)
    · replace h := if_t h c5
      exact pX6_letters_60 h
    · replace h := if_f h c5
      refine g_aload_n dX6_letters_27 rfl 0 rfl ?_
      refine g_aload_n dX6_letters_28 rfl 0 rfl ?_
      refine g_getI dX6_letters_29 gi_1 rfl fl_RX6_84 ?_
      refine g_aload_n dX6_letters_32 rfl 0 rfl ?_
      refine g_getC (n := 2) dX6_letters_33 gi_1 rfl fl_RX6_11 ?_
      refine g_aload_n dX6_letters_36 rfl 0 rfl ?_
      refine g_getI dX6_letters_37 gi_1 rfl fl_RX6_53 ?_
      obtain ⟨g6, h⟩ := gg_some h
      refine g_bald dX6_letters_40 gi_2 g6 ?_
      obtain ⟨x7, σ8, y9, h⟩ := bd_some h
      refine g_callSr (as := [.int (σ3.1 1 7), .int (σ3.1 2 ((σ3.1 1 4).toNatClampNeg))]) (st := [.ref 1]) (zX6_withLetter y9) dX6_letters_41 okX6_letters_43 (Nat.le_of_ble_eq_true rfl) ?_
      obtain ⟨σ10, eσ10, h⟩ := bnd_nm h
      refine g_putI dX6_letters_44 gi_1 rfl fp_RX6_84 (g_st eσ10 ?_)
      refine g_aload_n dX6_letters_47 rfl 0 rfl ?_
      refine g_dup dX6_letters_48 rfl ?_
      refine g_getI dX6_letters_49 gi_1 rfl fl_RX6_53 ?_
      refine g_iconst (v := 1) dX6_letters_52 (by decide) ?_
      refine g_iadd dX6_letters_53 ?_
      obtain ⟨σ11, eσ11, h⟩ := bnd_nm h
      refine g_putI dX6_letters_54 gi_1 rfl fp_RX6_53 (g_st eσ11 ?_)
      refine g_goto (t := 5) dX6_letters_57 (by decide) ?_
      exact ih σ11 h
def fX6_letters (σ : gS) : Option (Unit × gS) :=
  bnd (gsI σ 1 7 0) fun σ1 =>
  fX6_letters_5 2000 σ1
set_option maxHeartbeats 4000000 in
set_option maxRecDepth 100000 in
theorem pX6_letters {E : gE} {r : Unit} {σ' : gS} {σ : gS} (h : fX6_letters σ = some (r, σ')) : gG E mX6_letters 0 [(0, .ref 1)] [] σ (none) σ' := by
  unfold fX6_letters at h
  refine g_aload_n dX6_letters_0 rfl 0 rfl ?_
  refine g_iconst (v := 0) dX6_letters_1 (by decide) ?_
  obtain ⟨σ1, eσ1, h⟩ := bnd_nm h
  refine g_putI dX6_letters_2 gi_1 rfl fp_RX6_84 (g_st eσ1 ?_)
  exact pX6_letters_5 2000 σ1 h
theorem zX6_letters {E : gE} {r : Unit} {σ σ' : gS} (h : fX6_letters σ = some (r, σ')) : gC E mX6_letters [.ref 1] σ (none) σ' :=
  gC_of (by decide +kernel) rfl (Nat.le_of_ble_eq_true rfl) (pX6_letters h)
def mX6_isFigureAt : gM := (yX6_isFigureAt, cX6_isFigureAt, RX6, 2, (some .boolean), 0, 0)
theorem dX6_isFigureAt_0 : decode mX6_isFigureAt.2.1 0 = .ok (.aload_n 0, 1) := by decide +kernel
theorem dX6_isFigureAt_1 : decode mX6_isFigureAt.2.1 1 = .ok (.getfield 11, 3) := by decide +kernel
theorem dX6_isFigureAt_4 : decode mX6_isFigureAt.2.1 4 = .ok (.iload_n 1, 1) := by decide +kernel
theorem dX6_isFigureAt_5 : decode mX6_isFigureAt.2.1 5 = .ok (.baload, 1) := by decide +kernel
theorem dX6_isFigureAt_6 : decode mX6_isFigureAt.2.1 6 = .ok (.bipush 48, 2) := by decide +kernel
theorem dX6_isFigureAt_8 : decode mX6_isFigureAt.2.1 8 = .ok (.if_icmp .lt 18, 3) := by decide +kernel
theorem dX6_isFigureAt_11 : decode mX6_isFigureAt.2.1 11 = .ok (.aload_n 0, 1) := by decide +kernel
theorem dX6_isFigureAt_12 : decode mX6_isFigureAt.2.1 12 = .ok (.getfield 11, 3) := by decide +kernel
theorem dX6_isFigureAt_15 : decode mX6_isFigureAt.2.1 15 = .ok (.iload_n 1, 1) := by decide +kernel
theorem dX6_isFigureAt_16 : decode mX6_isFigureAt.2.1 16 = .ok (.baload, 1) := by decide +kernel
theorem dX6_isFigureAt_17 : decode mX6_isFigureAt.2.1 17 = .ok (.bipush 57, 2) := by decide +kernel
theorem dX6_isFigureAt_19 : decode mX6_isFigureAt.2.1 19 = .ok (.if_icmp .gt 7, 3) := by decide +kernel
theorem dX6_isFigureAt_22 : decode mX6_isFigureAt.2.1 22 = .ok (.iconst 1, 1) := by decide +kernel
theorem dX6_isFigureAt_23 : decode mX6_isFigureAt.2.1 23 = .ok (.goto 4, 3) := by decide +kernel
theorem dX6_isFigureAt_26 : decode mX6_isFigureAt.2.1 26 = .ok (.iconst 0, 1) := by decide +kernel
theorem dX6_isFigureAt_27 : decode mX6_isFigureAt.2.1 27 = .ok (.ireturn, 1) := by decide +kernel
def fX6_isFigureAt_27 (p1 : Int32) (s0 : Int32) (σ : gS) : Option (Int32 × gS) :=
  gg (s0 = 0 ∨ s0 = 1) (
  some (s0, σ))
set_option maxHeartbeats 4000000 in
set_option maxRecDepth 100000 in
theorem pX6_isFigureAt_27 {E : gE} {p1 : Int32} {r : Int32} {σ' : gS} {s0 : Int32} {σ : gS} (h : fX6_isFigureAt_27 p1 s0 σ = some (r, σ')) : gG E mX6_isFigureAt 27 [] [.int s0] σ (some (.int r)) σ' := by
  unfold fX6_isFigureAt_27 at h
  obtain ⟨g1, h⟩ := gg_some h
  obtain ⟨rfl, rfl⟩ := so_inj h
  exact g_zret dX6_isFigureAt_27 rfl g1
def fX6_isFigureAt_26 (p1 : Int32) (σ : gS) : Option (Int32 × gS) :=
  fX6_isFigureAt_27 p1 0 σ
set_option maxHeartbeats 4000000 in
set_option maxRecDepth 100000 in
theorem pX6_isFigureAt_26 {E : gE} {p1 : Int32} {r : Int32} {σ' : gS} {σ : gS} (h : fX6_isFigureAt_26 p1 σ = some (r, σ')) : gG E mX6_isFigureAt 26 [] [] σ (some (.int r)) σ' := by
  unfold fX6_isFigureAt_26 at h
  refine g_iconst (v := 0) dX6_isFigureAt_26 (by decide) ?_
  exact pX6_isFigureAt_27 h
def fX6_isFigureAt (p1 : Int32) (σ : gS) : Option (Int32 × gS) :=
  gg (¬ (p1 < 0 ∨ 1200 ≤ p1.toNatClampNeg)) (
  if (σ.1 2 p1.toNatClampNeg) < 48 then
    fX6_isFigureAt_26 p1 σ
  else
    gg (¬ (p1 < 0 ∨ 1200 ≤ p1.toNatClampNeg)) (
    if 57 < (σ.1 2 p1.toNatClampNeg) then
      fX6_isFigureAt_26 p1 σ
    else
      fX6_isFigureAt_27 p1 1 σ))
set_option maxHeartbeats 4000000 in
set_option maxRecDepth 100000 in
theorem pX6_isFigureAt {E : gE} {p1 : Int32} {r : Int32} {σ' : gS} {σ : gS} (h : fX6_isFigureAt p1 σ = some (r, σ')) : gG E mX6_isFigureAt 0 [(0, .ref 1), (1, .int p1)] [] σ (some (.int r)) σ' := by
  unfold fX6_isFigureAt at h
  refine g_aload_n dX6_isFigureAt_0 rfl 0 rfl ?_
  refine g_getC (n := 2) dX6_isFigureAt_1 gi_1 rfl fl_RX6_11 ?_
  refine g_iload_n dX6_isFigureAt_4 rfl 1 rfl ?_
  obtain ⟨g1, h⟩ := gg_some h
  refine g_bald dX6_isFigureAt_5 gi_2 g1 ?_
  refine g_bipush (v := 48) dX6_isFigureAt_6 (by decide) ?_
  refine g_icmp_lt (t := 26) dX6_isFigureAt_8 (by decide) (fun c2 => ?_) (fun c2 => ?_)
  · replace h := if_t h c2
    refine g_sub [] rfl ?_
    exact pX6_isFigureAt_26 h
  · replace h := if_f h c2
    refine g_aload_n dX6_isFigureAt_11 rfl 0 rfl ?_
    refine g_getC (n := 2) dX6_isFigureAt_12 gi_1 rfl fl_RX6_11 ?_
    refine g_iload_n dX6_isFigureAt_15 rfl 1 rfl ?_
    obtain ⟨g3, h⟩ := gg_some h
    refine g_bald dX6_isFigureAt_16 gi_2 g3 ?_
    refine g_bipush (v := 57) dX6_isFigureAt_17 (by decide) ?_
    refine g_icmp_gt (t := 26) dX6_isFigureAt_19 (by decide) (fun c4 => ?_) (fun c4 => ?_)
    · replace h := if_t h c4
      refine g_sub [] rfl ?_
      exact pX6_isFigureAt_26 h
    · replace h := if_f h c4
      refine g_iconst (v := 1) dX6_isFigureAt_22 (by decide) ?_
      refine g_goto (t := 27) dX6_isFigureAt_23 (by decide) ?_
      refine g_sub [] rfl ?_
      exact pX6_isFigureAt_27 h
theorem zX6_isFigureAt {E : gE} {p1 : Int32} {r : Int32} {σ σ' : gS} (h : fX6_isFigureAt p1 σ = some (r, σ')) : gC E mX6_isFigureAt [.ref 1, .int p1] σ (some (.int r)) σ' :=
  gC_of (by decide +kernel) rfl (Nat.le_of_ble_eq_true rfl) (pX6_isFigureAt h)
def mX6_figures : gM := (yX6_figures, cX6_figures, RX6, 4, none, 1, 21)
theorem dX6_figures_0 : decode mX6_figures.2.1 0 = .ok (.aload_n 0, 1) := by decide +kernel
theorem dX6_figures_1 : decode mX6_figures.2.1 1 = .ok (.getfield 11, 3) := by decide +kernel
theorem dX6_figures_4 : decode mX6_figures.2.1 4 = .ok (.aload_n 0, 1) := by decide +kernel
theorem dX6_figures_5 : decode mX6_figures.2.1 5 = .ok (.getfield 53, 3) := by decide +kernel
theorem dX6_figures_8 : decode mX6_figures.2.1 8 = .ok (.baload, 1) := by decide +kernel
theorem dX6_figures_9 : decode mX6_figures.2.1 9 = .ok (.bipush 45, 2) := by decide +kernel
theorem dX6_figures_11 : decode mX6_figures.2.1 11 = .ok (.if_icmp .ne 7, 3) := by decide +kernel
theorem dX6_figures_14 : decode mX6_figures.2.1 14 = .ok (.iconst 1, 1) := by decide +kernel
theorem dX6_figures_15 : decode mX6_figures.2.1 15 = .ok (.goto 4, 3) := by decide +kernel
theorem dX6_figures_18 : decode mX6_figures.2.1 18 = .ok (.iconst 0, 1) := by decide +kernel
theorem dX6_figures_19 : decode mX6_figures.2.1 19 = .ok (.istore_n 1, 1) := by decide +kernel
theorem dX6_figures_20 : decode mX6_figures.2.1 20 = .ok (.iload_n 1, 1) := by decide +kernel
theorem dX6_figures_21 : decode mX6_figures.2.1 21 = .ok (.ifCond .eq 13, 3) := by decide +kernel
theorem dX6_figures_24 : decode mX6_figures.2.1 24 = .ok (.aload_n 0, 1) := by decide +kernel
theorem dX6_figures_25 : decode mX6_figures.2.1 25 = .ok (.dup, 1) := by decide +kernel
theorem dX6_figures_26 : decode mX6_figures.2.1 26 = .ok (.getfield 53, 3) := by decide +kernel
theorem dX6_figures_29 : decode mX6_figures.2.1 29 = .ok (.iconst 1, 1) := by decide +kernel
theorem dX6_figures_30 : decode mX6_figures.2.1 30 = .ok (.iadd, 1) := by decide +kernel
theorem dX6_figures_31 : decode mX6_figures.2.1 31 = .ok (.putfield 53, 3) := by decide +kernel
theorem dX6_figures_34 : decode mX6_figures.2.1 34 = .ok (.aload_n 0, 1) := by decide +kernel
theorem dX6_figures_35 : decode mX6_figures.2.1 35 = .ok (.getfield 53, 3) := by decide +kernel
theorem dX6_figures_38 : decode mX6_figures.2.1 38 = .ok (.istore_n 2, 1) := by decide +kernel
theorem dX6_figures_39 : decode mX6_figures.2.1 39 = .ok (.aload_n 0, 1) := by decide +kernel
theorem dX6_figures_40 : decode mX6_figures.2.1 40 = .ok (.iconst 0, 1) := by decide +kernel
theorem dX6_figures_41 : decode mX6_figures.2.1 41 = .ok (.putfield 84, 3) := by decide +kernel
theorem dX6_figures_44 : decode mX6_figures.2.1 44 = .ok (.aload_n 0, 1) := by decide +kernel
theorem dX6_figures_45 : decode mX6_figures.2.1 45 = .ok (.getfield 53, 3) := by decide +kernel
theorem dX6_figures_48 : decode mX6_figures.2.1 48 = .ok (.aload_n 0, 1) := by decide +kernel
theorem dX6_figures_49 : decode mX6_figures.2.1 49 = .ok (.getfield 47, 3) := by decide +kernel
theorem dX6_figures_52 : decode mX6_figures.2.1 52 = .ok (.if_icmp .ge 51, 3) := by decide +kernel
theorem dX6_figures_55 : decode mX6_figures.2.1 55 = .ok (.aload_n 0, 1) := by decide +kernel
theorem dX6_figures_56 : decode mX6_figures.2.1 56 = .ok (.aload_n 0, 1) := by decide +kernel
theorem dX6_figures_57 : decode mX6_figures.2.1 57 = .ok (.getfield 53, 3) := by decide +kernel
theorem dX6_figures_60 : decode mX6_figures.2.1 60 = .ok (.invokevirtual 78, 3) := by decide +kernel
theorem dX6_figures_63 : decode mX6_figures.2.1 63 = .ok (.ifCond .eq 40, 3) := by decide +kernel
theorem dX6_figures_66 : decode mX6_figures.2.1 66 = .ok (.aload_n 0, 1) := by decide +kernel
theorem dX6_figures_67 : decode mX6_figures.2.1 67 = .ok (.bipush 10, 2) := by decide +kernel
theorem dX6_figures_69 : decode mX6_figures.2.1 69 = .ok (.aload_n 0, 1) := by decide +kernel
theorem dX6_figures_70 : decode mX6_figures.2.1 70 = .ok (.getfield 84, 3) := by decide +kernel
theorem dX6_figures_73 : decode mX6_figures.2.1 73 = .ok (.imul, 1) := by decide +kernel
theorem dX6_figures_74 : decode mX6_figures.2.1 74 = .ok (.aload_n 0, 1) := by decide +kernel
theorem dX6_figures_75 : decode mX6_figures.2.1 75 = .ok (.getfield 11, 3) := by decide +kernel
theorem dX6_figures_78 : decode mX6_figures.2.1 78 = .ok (.aload_n 0, 1) := by decide +kernel
theorem dX6_figures_79 : decode mX6_figures.2.1 79 = .ok (.getfield 53, 3) := by decide +kernel
theorem dX6_figures_82 : decode mX6_figures.2.1 82 = .ok (.baload, 1) := by decide +kernel
theorem dX6_figures_83 : decode mX6_figures.2.1 83 = .ok (.bipush 48, 2) := by decide +kernel
theorem dX6_figures_85 : decode mX6_figures.2.1 85 = .ok (.isub, 1) := by decide +kernel
theorem dX6_figures_86 : decode mX6_figures.2.1 86 = .ok (.iadd, 1) := by decide +kernel
theorem dX6_figures_87 : decode mX6_figures.2.1 87 = .ok (.putfield 84, 3) := by decide +kernel
theorem dX6_figures_90 : decode mX6_figures.2.1 90 = .ok (.aload_n 0, 1) := by decide +kernel
theorem dX6_figures_91 : decode mX6_figures.2.1 91 = .ok (.dup, 1) := by decide +kernel
theorem dX6_figures_92 : decode mX6_figures.2.1 92 = .ok (.getfield 53, 3) := by decide +kernel
theorem dX6_figures_95 : decode mX6_figures.2.1 95 = .ok (.iconst 1, 1) := by decide +kernel
theorem dX6_figures_96 : decode mX6_figures.2.1 96 = .ok (.iadd, 1) := by decide +kernel
theorem dX6_figures_97 : decode mX6_figures.2.1 97 = .ok (.putfield 53, 3) := by decide +kernel
theorem dX6_figures_100 : decode mX6_figures.2.1 100 = .ok (.goto (-56), 3) := by decide +kernel
theorem dX6_figures_103 : decode mX6_figures.2.1 103 = .ok (.aload_n 0, 1) := by decide +kernel
theorem dX6_figures_104 : decode mX6_figures.2.1 104 = .ok (.getfield 53, 3) := by decide +kernel
theorem dX6_figures_107 : decode mX6_figures.2.1 107 = .ok (.iload_n 2, 1) := by decide +kernel
theorem dX6_figures_108 : decode mX6_figures.2.1 108 = .ok (.isub, 1) := by decide +kernel
theorem dX6_figures_109 : decode mX6_figures.2.1 109 = .ok (.istore_n 3, 1) := by decide +kernel
theorem dX6_figures_110 : decode mX6_figures.2.1 110 = .ok (.aload_n 0, 1) := by decide +kernel
theorem dX6_figures_111 : decode mX6_figures.2.1 111 = .ok (.iload_n 3, 1) := by decide +kernel
theorem dX6_figures_112 : decode mX6_figures.2.1 112 = .ok (.iconst 1, 1) := by decide +kernel
theorem dX6_figures_113 : decode mX6_figures.2.1 113 = .ok (.if_icmp .lt 12, 3) := by decide +kernel
theorem dX6_figures_116 : decode mX6_figures.2.1 116 = .ok (.iload_n 3, 1) := by decide +kernel
theorem dX6_figures_117 : decode mX6_figures.2.1 117 = .ok (.iconst 4, 1) := by decide +kernel
theorem dX6_figures_118 : decode mX6_figures.2.1 118 = .ok (.if_icmp .gt 7, 3) := by decide +kernel
theorem dX6_figures_121 : decode mX6_figures.2.1 121 = .ok (.iconst 4, 1) := by decide +kernel
theorem dX6_figures_122 : decode mX6_figures.2.1 122 = .ok (.goto 4, 3) := by decide +kernel
theorem dX6_figures_125 : decode mX6_figures.2.1 125 = .ok (.iconst 1, 1) := by decide +kernel
theorem dX6_figures_126 : decode mX6_figures.2.1 126 = .ok (.putfield 62, 3) := by decide +kernel
theorem dX6_figures_129 : decode mX6_figures.2.1 129 = .ok (.iload_n 1, 1) := by decide +kernel
theorem dX6_figures_130 : decode mX6_figures.2.1 130 = .ok (.ifCond .eq 12, 3) := by decide +kernel
theorem dX6_figures_133 : decode mX6_figures.2.1 133 = .ok (.aload_n 0, 1) := by decide +kernel
theorem dX6_figures_134 : decode mX6_figures.2.1 134 = .ok (.aload_n 0, 1) := by decide +kernel
theorem dX6_figures_135 : decode mX6_figures.2.1 135 = .ok (.getfield 84, 3) := by decide +kernel
theorem dX6_figures_138 : decode mX6_figures.2.1 138 = .ok (.ineg, 1) := by decide +kernel
theorem dX6_figures_139 : decode mX6_figures.2.1 139 = .ok (.putfield 84, 3) := by decide +kernel
theorem dX6_figures_142 : decode mX6_figures.2.1 142 = .ok (.return_, 1) := by decide +kernel
theorem okX6_figures_78 : gOkV mX6_figures mX6_isFigureAt 78 1 := ⟨List.forall_mem_cons.mpr ⟨(gm 603 (by decide +kernel) rfl), List.forall_mem_cons.mpr ⟨(gm 600 (by decide +kernel) rfl), List.forall_mem_cons.mpr ⟨(gm 602 (by decide +kernel) rfl), List.forall_mem_cons.mpr ⟨(gm 3 (by decide +kernel) rfl), List.forall_mem_cons.mpr ⟨(gm 108 (by decide +kernel) rfl), fun _ h => absurd h List.not_mem_nil⟩⟩⟩⟩⟩, by decide +kernel, by decide +kernel, by decide +kernel⟩
def fX6_figures_142 (σ : gS) : Option (Unit × gS) :=
  some ((), σ)
set_option maxHeartbeats 4000000 in
set_option maxRecDepth 100000 in
theorem pX6_figures_142 {E : gE} {r : Unit} {σ' : gS} {σ : gS} (h : fX6_figures_142 σ = some (r, σ')) : gG E mX6_figures 142 [] [] σ (none) σ' := by
  unfold fX6_figures_142 at h
  obtain ⟨rfl, rfl⟩ := so_inj h
  exact g_vret dX6_figures_142 rfl
def fX6_figures_126 (v1 : Int32) (s1 : Int32) (σ : gS) : Option (Unit × gS) :=
  bnd (gsI σ 1 5 s1) fun σ1 =>
  if v1 = 0 then
    fX6_figures_142 σ1
  else
    bnd (gsI σ1 1 7 (-(σ1.1 1 7))) fun σ3 =>
    fX6_figures_142 σ3
set_option maxHeartbeats 4000000 in
set_option maxRecDepth 100000 in
theorem pX6_figures_126 {E : gE} {r : Unit} {σ' : gS} {v1 : Int32} {s1 : Int32} {σ : gS} (h : fX6_figures_126 v1 s1 σ = some (r, σ')) : gG E mX6_figures 126 [(0, .ref 1), (1, .int v1)] [.int s1, .ref 1] σ (none) σ' := by
  unfold fX6_figures_126 at h
  obtain ⟨σ1, eσ1, h⟩ := bnd_nm h
  refine g_putI dX6_figures_126 gi_1 rfl fp_RX6_62 (g_st eσ1 ?_)
  refine g_iload_n dX6_figures_129 rfl 1 rfl ?_
  refine g_if_eq (t := 142) dX6_figures_130 (by decide) (fun c2 => ?_) (fun c2 => ?_)
  · replace h := if_t h c2
    refine g_sub [] rfl ?_
    exact pX6_figures_142 h
  · replace h := if_f h c2
    refine g_aload_n dX6_figures_133 rfl 0 rfl ?_
    refine g_aload_n dX6_figures_134 rfl 0 rfl ?_
    refine g_getI dX6_figures_135 gi_1 rfl fl_RX6_84 ?_
    refine g_ineg dX6_figures_138 ?_
    obtain ⟨σ3, eσ3, h⟩ := bnd_nm h
    refine g_putI dX6_figures_139 gi_1 rfl fp_RX6_84 (g_st eσ3 ?_)
    refine g_sub [] rfl ?_
    exact pX6_figures_142 h
def fX6_figures_125 (v1 : Int32) (σ : gS) : Option (Unit × gS) :=
  fX6_figures_126 v1 1 σ
set_option maxHeartbeats 4000000 in
set_option maxRecDepth 100000 in
theorem pX6_figures_125 {E : gE} {r : Unit} {σ' : gS} {v1 : Int32} {σ : gS} (h : fX6_figures_125 v1 σ = some (r, σ')) : gG E mX6_figures 125 [(0, .ref 1), (1, .int v1)] [.ref 1] σ (none) σ' := by
  unfold fX6_figures_125 at h
  refine g_iconst (v := 1) dX6_figures_125 (by decide) ?_
  exact pX6_figures_126 h
def fX6_figures_103 (v1 : Int32) (v2 : Int32) (σ : gS) : Option (Unit × gS) :=
  bnd ((σ.1 1 4) - v2) fun x1 =>
  if x1 < 1 then
    fX6_figures_125 v1 σ
  else
    if 4 < x1 then
      fX6_figures_125 v1 σ
    else
      fX6_figures_126 v1 4 σ
set_option maxHeartbeats 4000000 in
set_option maxRecDepth 100000 in
theorem pX6_figures_103 {E : gE} {r : Unit} {σ' : gS} {v1 : Int32} {v2 : Int32} {σ : gS} (h : fX6_figures_103 v1 v2 σ = some (r, σ')) : gG E mX6_figures 103 [(0, .ref 1), (1, .int v1), (2, .int v2)] [] σ (none) σ' := by
  unfold fX6_figures_103 at h
  refine g_aload_n dX6_figures_103 rfl 0 rfl ?_
  refine g_getI dX6_figures_104 gi_1 rfl fl_RX6_53 ?_
  refine g_iload_n dX6_figures_107 rfl 2 rfl ?_
  refine g_isub dX6_figures_108 ?_
  obtain ⟨x1, ex1, h⟩ := bnd_nm h
  refine g_topi ex1 ?_
  refine g_istore_n (lv' := [(3, .int x1), (0, .ref 1), (1, .int v1), (2, .int v2)]) dX6_figures_109 rfl (Nat.le_of_ble_eq_true rfl) rfl ?_
  refine g_aload_n dX6_figures_110 rfl 1 rfl ?_
  refine g_iload_n dX6_figures_111 rfl 0 rfl ?_
  refine g_iconst (v := 1) dX6_figures_112 (by decide) ?_
  refine g_icmp_lt (t := 125) dX6_figures_113 (by decide) (fun c2 => ?_) (fun c2 => ?_)
  · replace h := if_t h c2
    refine g_sub [1, 2] rfl ?_
    exact pX6_figures_125 h
  · replace h := if_f h c2
    refine g_iload_n dX6_figures_116 rfl 0 rfl ?_
    refine g_iconst (v := 4) dX6_figures_117 (by decide) ?_
    refine g_icmp_gt (t := 125) dX6_figures_118 (by decide) (fun c3 => ?_) (fun c3 => ?_)
    · replace h := if_t h c3
      refine g_sub [1, 2] rfl ?_
      exact pX6_figures_125 h
    · replace h := if_f h c3
      refine g_iconst (v := 4) dX6_figures_121 (by decide) ?_
      refine g_goto (t := 126) dX6_figures_122 (by decide) ?_
      refine g_sub [1, 2] rfl ?_
      exact pX6_figures_126 h
def fX6_figures_44 : Nat → Int32 → Int32 → gS → Option (Unit × gS)
  | 0, _, _, _ => none
  | n + 1, v1, v2, σ => if (σ.1 1 1) ≤ (σ.1 1 4) then
    fX6_figures_103 v1 v2 σ
  else
    bd (fX6_isFigureAt (σ.1 1 4) σ) fun x2 σ3 =>
    if x2 = 0 then
      fX6_figures_103 v1 v2 σ3
    else
      gg (¬ (σ3.1 1 4 < 0 ∨ 1200 ≤ (σ3.1 1 4).toNatClampNeg)) (
      bnd (gsI σ3 1 7 ((10 * (σ3.1 1 7)) + ((σ3.1 2 ((σ3.1 1 4).toNatClampNeg)) - 48))) fun σ7 =>
      bnd (gsI σ7 1 4 ((σ7.1 1 4) + 1)) fun σ8 =>
      fX6_figures_44 n v1 v2 σ8)
set_option maxHeartbeats 4000000 in
set_option maxRecDepth 100000 in
theorem pX6_figures_44 {E : gE} {r : Unit} {σ' : gS} : ∀ (n : Nat) (v1 : Int32) (v2 : Int32) (σ : gS), fX6_figures_44 n v1 v2 σ = some (r, σ') → gG E mX6_figures 44 [(0, .ref 1), (1, .int v1), (2, .int v2)] [] σ (none) σ' := by
  intro n
  induction n with
  | zero => intro v1 v2 σ h; exact absurd (show none = some (r, σ') from h) (by intro q; cases q)
  | succ n ih =>
  intro v1 v2 σ h
  unfold fX6_figures_44 at h
  refine g_aload_n dX6_figures_44 rfl 0 rfl ?_
  refine g_getI dX6_figures_45 gi_1 rfl fl_RX6_53 ?_
  refine g_aload_n dX6_figures_48 rfl 0 rfl ?_
  refine g_getI dX6_figures_49 gi_1 rfl fl_RX6_47 ?_
  refine g_icmp_ge (t := 103) dX6_figures_52 (by decide) (fun c1 => ?_) (fun c1 => ?_)
  · replace h := if_t h c1
    exact pX6_figures_103 h
  · replace h := if_f h c1
    refine g_aload_n dX6_figures_55 rfl 0 rfl ?_
    refine g_aload_n dX6_figures_56 rfl 0 rfl ?_
    refine g_getI dX6_figures_57 gi_1 rfl fl_RX6_53 ?_
    obtain ⟨x2, σ3, y4, h⟩ := bd_some h
    refine g_callVr (as := [.int (σ.1 1 4)]) (st := []) (zX6_isFigureAt y4) dX6_figures_60 gi_1 rfl okX6_figures_78 (Nat.le_of_ble_eq_true rfl) ?_
    refine g_if_eq (t := 103) dX6_figures_63 (by decide) (fun c5 => ?_) (fun c5 => ?_)
    · replace h := if_t h c5
      exact pX6_figures_103 h
    · replace h := if_f h c5
      refine g_aload_n dX6_figures_66 rfl 0 rfl ?_
      refine g_bipush (v := 10) dX6_figures_67 (by decide) ?_
      refine g_aload_n dX6_figures_69 rfl 0 rfl ?_
      refine g_getI dX6_figures_70 gi_1 rfl fl_RX6_84 ?_
      refine g_imul dX6_figures_73 ?_
      refine g_aload_n dX6_figures_74 rfl 0 rfl ?_
      refine g_getC (n := 2) dX6_figures_75 gi_1 rfl fl_RX6_11 ?_
      refine g_aload_n dX6_figures_78 rfl 0 rfl ?_
      refine g_getI dX6_figures_79 gi_1 rfl fl_RX6_53 ?_
      obtain ⟨g6, h⟩ := gg_some h
      refine g_bald dX6_figures_82 gi_2 g6 ?_
      refine g_bipush (v := 48) dX6_figures_83 (by decide) ?_
      refine g_isub dX6_figures_85 ?_
      refine g_iadd dX6_figures_86 ?_
      obtain ⟨σ7, eσ7, h⟩ := bnd_nm h
      refine g_putI dX6_figures_87 gi_1 rfl fp_RX6_84 (g_st eσ7 ?_)
      refine g_aload_n dX6_figures_90 rfl 0 rfl ?_
      refine g_dup dX6_figures_91 rfl ?_
      refine g_getI dX6_figures_92 gi_1 rfl fl_RX6_53 ?_
      refine g_iconst (v := 1) dX6_figures_95 (by decide) ?_
      refine g_iadd dX6_figures_96 ?_
      obtain ⟨σ8, eσ8, h⟩ := bnd_nm h
      refine g_putI dX6_figures_97 gi_1 rfl fp_RX6_53 (g_st eσ8 ?_)
      refine g_goto (t := 44) dX6_figures_100 (by decide) ?_
      exact ih v1 v2 σ8 h
def fX6_figures_34 (v1 : Int32) (σ : gS) : Option (Unit × gS) :=
  bnd (gsI σ 1 7 0) fun σ1 =>
  fX6_figures_44 2000 v1 (σ.1 1 4) σ1
set_option maxHeartbeats 4000000 in
set_option maxRecDepth 100000 in
theorem pX6_figures_34 {E : gE} {r : Unit} {σ' : gS} {v1 : Int32} {σ : gS} (h : fX6_figures_34 v1 σ = some (r, σ')) : gG E mX6_figures 34 [(0, .ref 1), (1, .int v1)] [] σ (none) σ' := by
  unfold fX6_figures_34 at h
  refine g_aload_n dX6_figures_34 rfl 0 rfl ?_
  refine g_getI dX6_figures_35 gi_1 rfl fl_RX6_53 ?_
  refine g_istore_n (lv' := [(2, .int (σ.1 1 4)), (0, .ref 1), (1, .int v1)]) dX6_figures_38 rfl (Nat.le_of_ble_eq_true rfl) rfl ?_
  refine g_aload_n dX6_figures_39 rfl 1 rfl ?_
  refine g_iconst (v := 0) dX6_figures_40 (by decide) ?_
  obtain ⟨σ1, eσ1, h⟩ := bnd_nm h
  refine g_putI dX6_figures_41 gi_1 rfl fp_RX6_84 (g_st eσ1 ?_)
  refine g_sub [1, 2, 0] rfl ?_
  exact pX6_figures_44 2000 v1 (σ.1 1 4) σ1 h
def fX6_figures_19 (s0 : Int32) (σ : gS) : Option (Unit × gS) :=
  if s0 = 0 then
    fX6_figures_34 s0 σ
  else
    bnd (gsI σ 1 4 ((σ.1 1 4) + 1)) fun σ2 =>
    fX6_figures_34 s0 σ2
set_option maxHeartbeats 4000000 in
set_option maxRecDepth 100000 in
theorem pX6_figures_19 {E : gE} {r : Unit} {σ' : gS} {s0 : Int32} {σ : gS} (h : fX6_figures_19 s0 σ = some (r, σ')) : gG E mX6_figures 19 [(0, .ref 1)] [.int s0] σ (none) σ' := by
  unfold fX6_figures_19 at h
  refine g_istore_n (lv' := [(1, .int s0), (0, .ref 1)]) dX6_figures_19 rfl (Nat.le_of_ble_eq_true rfl) rfl ?_
  refine g_iload_n dX6_figures_20 rfl 0 rfl ?_
  refine g_if_eq (t := 34) dX6_figures_21 (by decide) (fun c1 => ?_) (fun c1 => ?_)
  · replace h := if_t h c1
    refine g_sub [1, 0] rfl ?_
    exact pX6_figures_34 h
  · replace h := if_f h c1
    refine g_aload_n dX6_figures_24 rfl 1 rfl ?_
    refine g_dup dX6_figures_25 rfl ?_
    refine g_getI dX6_figures_26 gi_1 rfl fl_RX6_53 ?_
    refine g_iconst (v := 1) dX6_figures_29 (by decide) ?_
    refine g_iadd dX6_figures_30 ?_
    obtain ⟨σ2, eσ2, h⟩ := bnd_nm h
    refine g_putI dX6_figures_31 gi_1 rfl fp_RX6_53 (g_st eσ2 ?_)
    refine g_sub [1, 0] rfl ?_
    exact pX6_figures_34 h
def fX6_figures (σ : gS) : Option (Unit × gS) :=
  gg (¬ (σ.1 1 4 < 0 ∨ 1200 ≤ (σ.1 1 4).toNatClampNeg)) (
  if (σ.1 2 ((σ.1 1 4).toNatClampNeg)) = 45 then
    fX6_figures_19 1 σ
  else
    fX6_figures_19 0 σ)
set_option maxHeartbeats 4000000 in
set_option maxRecDepth 100000 in
theorem pX6_figures {E : gE} {r : Unit} {σ' : gS} {σ : gS} (h : fX6_figures σ = some (r, σ')) : gG E mX6_figures 0 [(0, .ref 1)] [] σ (none) σ' := by
  unfold fX6_figures at h
  refine g_aload_n dX6_figures_0 rfl 0 rfl ?_
  refine g_getC (n := 2) dX6_figures_1 gi_1 rfl fl_RX6_11 ?_
  refine g_aload_n dX6_figures_4 rfl 0 rfl ?_
  refine g_getI dX6_figures_5 gi_1 rfl fl_RX6_53 ?_
  obtain ⟨g1, h⟩ := gg_some h
  refine g_bald dX6_figures_8 gi_2 g1 ?_
  refine g_bipush (v := 45) dX6_figures_9 (by decide) ?_
  refine g_icmp_ne (t := 18) dX6_figures_11 (by decide) (fun c2 => ?_) (fun c2 => ?_)
  · replace h := if_f h c2
    refine g_iconst (v := 0) dX6_figures_18 (by decide) ?_
    exact pX6_figures_19 h
  · replace h := if_t h c2
    refine g_iconst (v := 1) dX6_figures_14 (by decide) ?_
    refine g_goto (t := 19) dX6_figures_15 (by decide) ?_
    exact pX6_figures_19 h
theorem zX6_figures {E : gE} {r : Unit} {σ σ' : gS} (h : fX6_figures σ = some (r, σ')) : gC E mX6_figures [.ref 1] σ (none) σ' :=
  gC_of (by decide +kernel) rfl (Nat.le_of_ble_eq_true rfl) (pX6_figures h)
theorem fp_RX6_68 : gFp RX6 68 6 6 .int := ⟨RX6, TX6, 10, rfl, by decide, ux_6, Or.inl (gm 253 (by decide +kernel) rfl), rfl, by decide +kernel, ⟨tyX6, tyX6_ok⟩, nmX6⟩
def mX6_next : gM := (yX6_next, cX6_next, RX6, 1, none, 2, 44)
theorem dX6_next_0 : decode mX6_next.2.1 0 = .ok (.aload_n 0, 1) := by decide +kernel
theorem dX6_next_1 : decode mX6_next.2.1 1 = .ok (.getfield 53, 3) := by decide +kernel
theorem dX6_next_4 : decode mX6_next.2.1 4 = .ok (.aload_n 0, 1) := by decide +kernel
theorem dX6_next_5 : decode mX6_next.2.1 5 = .ok (.getfield 47, 3) := by decide +kernel
theorem dX6_next_8 : decode mX6_next.2.1 8 = .ok (.if_icmp .ge 44, 3) := by decide +kernel
theorem dX6_next_11 : decode mX6_next.2.1 11 = .ok (.aload_n 0, 1) := by decide +kernel
theorem dX6_next_12 : decode mX6_next.2.1 12 = .ok (.getfield 11, 3) := by decide +kernel
theorem dX6_next_15 : decode mX6_next.2.1 15 = .ok (.aload_n 0, 1) := by decide +kernel
theorem dX6_next_16 : decode mX6_next.2.1 16 = .ok (.getfield 53, 3) := by decide +kernel
theorem dX6_next_19 : decode mX6_next.2.1 19 = .ok (.baload, 1) := by decide +kernel
theorem dX6_next_20 : decode mX6_next.2.1 20 = .ok (.bipush 32, 2) := by decide +kernel
theorem dX6_next_22 : decode mX6_next.2.1 22 = .ok (.if_icmp .eq 17, 3) := by decide +kernel
theorem dX6_next_25 : decode mX6_next.2.1 25 = .ok (.aload_n 0, 1) := by decide +kernel
theorem dX6_next_26 : decode mX6_next.2.1 26 = .ok (.getfield 11, 3) := by decide +kernel
theorem dX6_next_29 : decode mX6_next.2.1 29 = .ok (.aload_n 0, 1) := by decide +kernel
theorem dX6_next_30 : decode mX6_next.2.1 30 = .ok (.getfield 53, 3) := by decide +kernel
theorem dX6_next_33 : decode mX6_next.2.1 33 = .ok (.baload, 1) := by decide +kernel
theorem dX6_next_34 : decode mX6_next.2.1 34 = .ok (.bipush 10, 2) := by decide +kernel
theorem dX6_next_36 : decode mX6_next.2.1 36 = .ok (.if_icmp .ne 16, 3) := by decide +kernel
theorem dX6_next_39 : decode mX6_next.2.1 39 = .ok (.aload_n 0, 1) := by decide +kernel
theorem dX6_next_40 : decode mX6_next.2.1 40 = .ok (.dup, 1) := by decide +kernel
theorem dX6_next_41 : decode mX6_next.2.1 41 = .ok (.getfield 53, 3) := by decide +kernel
theorem dX6_next_44 : decode mX6_next.2.1 44 = .ok (.iconst 1, 1) := by decide +kernel
theorem dX6_next_45 : decode mX6_next.2.1 45 = .ok (.iadd, 1) := by decide +kernel
theorem dX6_next_46 : decode mX6_next.2.1 46 = .ok (.putfield 53, 3) := by decide +kernel
theorem dX6_next_49 : decode mX6_next.2.1 49 = .ok (.goto (-49), 3) := by decide +kernel
theorem dX6_next_52 : decode mX6_next.2.1 52 = .ok (.aload_n 0, 1) := by decide +kernel
theorem dX6_next_53 : decode mX6_next.2.1 53 = .ok (.aload_n 0, 1) := by decide +kernel
theorem dX6_next_54 : decode mX6_next.2.1 54 = .ok (.getfield 53, 3) := by decide +kernel
theorem dX6_next_57 : decode mX6_next.2.1 57 = .ok (.putfield 68, 3) := by decide +kernel
theorem dX6_next_60 : decode mX6_next.2.1 60 = .ok (.aload_n 0, 1) := by decide +kernel
theorem dX6_next_61 : decode mX6_next.2.1 61 = .ok (.getfield 53, 3) := by decide +kernel
theorem dX6_next_64 : decode mX6_next.2.1 64 = .ok (.aload_n 0, 1) := by decide +kernel
theorem dX6_next_65 : decode mX6_next.2.1 65 = .ok (.getfield 47, 3) := by decide +kernel
theorem dX6_next_68 : decode mX6_next.2.1 68 = .ok (.if_icmp .lt 11, 3) := by decide +kernel
theorem dX6_next_71 : decode mX6_next.2.1 71 = .ok (.aload_n 0, 1) := by decide +kernel
theorem dX6_next_72 : decode mX6_next.2.1 72 = .ok (.iconst 0, 1) := by decide +kernel
theorem dX6_next_73 : decode mX6_next.2.1 73 = .ok (.putfield 62, 3) := by decide +kernel
theorem dX6_next_76 : decode mX6_next.2.1 76 = .ok (.goto 86, 3) := by decide +kernel
theorem dX6_next_79 : decode mX6_next.2.1 79 = .ok (.aload_n 0, 1) := by decide +kernel
theorem dX6_next_80 : decode mX6_next.2.1 80 = .ok (.aload_n 0, 1) := by decide +kernel
theorem dX6_next_81 : decode mX6_next.2.1 81 = .ok (.getfield 53, 3) := by decide +kernel
theorem dX6_next_84 : decode mX6_next.2.1 84 = .ok (.invokevirtual 71, 3) := by decide +kernel
theorem dX6_next_87 : decode mX6_next.2.1 87 = .ok (.ifCond .eq 10, 3) := by decide +kernel
theorem dX6_next_90 : decode mX6_next.2.1 90 = .ok (.aload_n 0, 1) := by decide +kernel
theorem dX6_next_91 : decode mX6_next.2.1 91 = .ok (.invokevirtual 75, 3) := by decide +kernel
theorem dX6_next_94 : decode mX6_next.2.1 94 = .ok (.goto 68, 3) := by decide +kernel
theorem dX6_next_97 : decode mX6_next.2.1 97 = .ok (.aload_n 0, 1) := by decide +kernel
theorem dX6_next_98 : decode mX6_next.2.1 98 = .ok (.aload_n 0, 1) := by decide +kernel
theorem dX6_next_99 : decode mX6_next.2.1 99 = .ok (.getfield 53, 3) := by decide +kernel
theorem dX6_next_102 : decode mX6_next.2.1 102 = .ok (.invokevirtual 78, 3) := by decide +kernel
theorem dX6_next_105 : decode mX6_next.2.1 105 = .ok (.ifCond .ne 17, 3) := by decide +kernel
theorem dX6_next_108 : decode mX6_next.2.1 108 = .ok (.aload_n 0, 1) := by decide +kernel
theorem dX6_next_109 : decode mX6_next.2.1 109 = .ok (.getfield 11, 3) := by decide +kernel
theorem dX6_next_112 : decode mX6_next.2.1 112 = .ok (.aload_n 0, 1) := by decide +kernel
theorem dX6_next_113 : decode mX6_next.2.1 113 = .ok (.getfield 53, 3) := by decide +kernel
theorem dX6_next_116 : decode mX6_next.2.1 116 = .ok (.baload, 1) := by decide +kernel
theorem dX6_next_117 : decode mX6_next.2.1 117 = .ok (.bipush 45, 2) := by decide +kernel
theorem dX6_next_119 : decode mX6_next.2.1 119 = .ok (.if_icmp .ne 10, 3) := by decide +kernel
theorem dX6_next_122 : decode mX6_next.2.1 122 = .ok (.aload_n 0, 1) := by decide +kernel
theorem dX6_next_123 : decode mX6_next.2.1 123 = .ok (.invokevirtual 81, 3) := by decide +kernel
theorem dX6_next_126 : decode mX6_next.2.1 126 = .ok (.goto 36, 3) := by decide +kernel
theorem dX6_next_129 : decode mX6_next.2.1 129 = .ok (.aload_n 0, 1) := by decide +kernel
theorem dX6_next_130 : decode mX6_next.2.1 130 = .ok (.aload_n 0, 1) := by decide +kernel
theorem dX6_next_131 : decode mX6_next.2.1 131 = .ok (.getfield 11, 3) := by decide +kernel
theorem dX6_next_134 : decode mX6_next.2.1 134 = .ok (.aload_n 0, 1) := by decide +kernel
theorem dX6_next_135 : decode mX6_next.2.1 135 = .ok (.getfield 53, 3) := by decide +kernel
theorem dX6_next_138 : decode mX6_next.2.1 138 = .ok (.baload, 1) := by decide +kernel
theorem dX6_next_139 : decode mX6_next.2.1 139 = .ok (.bipush 59, 2) := by decide +kernel
theorem dX6_next_141 : decode mX6_next.2.1 141 = .ok (.if_icmp .ne 7, 3) := by decide +kernel
theorem dX6_next_144 : decode mX6_next.2.1 144 = .ok (.iconst 5, 1) := by decide +kernel
theorem dX6_next_145 : decode mX6_next.2.1 145 = .ok (.goto 4, 3) := by decide +kernel
theorem dX6_next_148 : decode mX6_next.2.1 148 = .ok (.iconst 1, 1) := by decide +kernel
theorem dX6_next_149 : decode mX6_next.2.1 149 = .ok (.putfield 62, 3) := by decide +kernel
theorem dX6_next_152 : decode mX6_next.2.1 152 = .ok (.aload_n 0, 1) := by decide +kernel
theorem dX6_next_153 : decode mX6_next.2.1 153 = .ok (.dup, 1) := by decide +kernel
theorem dX6_next_154 : decode mX6_next.2.1 154 = .ok (.getfield 53, 3) := by decide +kernel
theorem dX6_next_157 : decode mX6_next.2.1 157 = .ok (.iconst 1, 1) := by decide +kernel
theorem dX6_next_158 : decode mX6_next.2.1 158 = .ok (.iadd, 1) := by decide +kernel
theorem dX6_next_159 : decode mX6_next.2.1 159 = .ok (.putfield 53, 3) := by decide +kernel
theorem dX6_next_162 : decode mX6_next.2.1 162 = .ok (.return_, 1) := by decide +kernel
theorem okX6_next_81 : gOkV mX6_next mX6_figures 81 0 := ⟨List.forall_mem_cons.mpr ⟨(gm 607 (by decide +kernel) rfl), List.forall_mem_cons.mpr ⟨(gm 604 (by decide +kernel) rfl), List.forall_mem_cons.mpr ⟨(gm 606 (by decide +kernel) rfl), List.forall_mem_cons.mpr ⟨(gm 4 (by decide +kernel) rfl), List.forall_mem_cons.mpr ⟨(gm 108 (by decide +kernel) rfl), fun _ h => absurd h List.not_mem_nil⟩⟩⟩⟩⟩, by decide +kernel, by decide +kernel, by decide +kernel⟩
theorem okX6_next_71 : gOkV mX6_next mX6_isLetterAt 71 1 := ⟨List.forall_mem_cons.mpr ⟨(gm 595 (by decide +kernel) rfl), List.forall_mem_cons.mpr ⟨(gm 592 (by decide +kernel) rfl), List.forall_mem_cons.mpr ⟨(gm 594 (by decide +kernel) rfl), List.forall_mem_cons.mpr ⟨(gm 1 (by decide +kernel) rfl), List.forall_mem_cons.mpr ⟨(gm 108 (by decide +kernel) rfl), fun _ h => absurd h List.not_mem_nil⟩⟩⟩⟩⟩, by decide +kernel, by decide +kernel, by decide +kernel⟩
theorem okX6_next_78 : gOkV mX6_next mX6_isFigureAt 78 1 := ⟨List.forall_mem_cons.mpr ⟨(gm 603 (by decide +kernel) rfl), List.forall_mem_cons.mpr ⟨(gm 600 (by decide +kernel) rfl), List.forall_mem_cons.mpr ⟨(gm 602 (by decide +kernel) rfl), List.forall_mem_cons.mpr ⟨(gm 3 (by decide +kernel) rfl), List.forall_mem_cons.mpr ⟨(gm 108 (by decide +kernel) rfl), fun _ h => absurd h List.not_mem_nil⟩⟩⟩⟩⟩, by decide +kernel, by decide +kernel, by decide +kernel⟩
theorem okX6_next_75 : gOkV mX6_next mX6_letters 75 0 := ⟨List.forall_mem_cons.mpr ⟨(gm 599 (by decide +kernel) rfl), List.forall_mem_cons.mpr ⟨(gm 596 (by decide +kernel) rfl), List.forall_mem_cons.mpr ⟨(gm 598 (by decide +kernel) rfl), List.forall_mem_cons.mpr ⟨(gm 2 (by decide +kernel) rfl), List.forall_mem_cons.mpr ⟨(gm 108 (by decide +kernel) rfl), fun _ h => absurd h List.not_mem_nil⟩⟩⟩⟩⟩, by decide +kernel, by decide +kernel, by decide +kernel⟩
def fX6_next_39 (k0 : gS → Option (Unit × gS)) (σ : gS) : Option (Unit × gS) :=
  bnd (gsI σ 1 4 ((σ.1 1 4) + 1)) fun σ1 =>
  k0 σ1
set_option maxHeartbeats 4000000 in
set_option maxRecDepth 100000 in
theorem pX6_next_39 {E : gE} {k0 : gS → Option (Unit × gS)} {r : Unit} {σ' : gS} {σ : gS} (hk0 : ∀ (σ : gS), k0 σ = some (r, σ') → gG E mX6_next 0 [(0, .ref 1)] [] σ (none) σ') (h : fX6_next_39 k0 σ = some (r, σ')) : gG E mX6_next 39 [(0, .ref 1)] [] σ (none) σ' := by
  unfold fX6_next_39 at h
  refine g_aload_n dX6_next_39 rfl 0 rfl ?_
  refine g_dup dX6_next_40 rfl ?_
  refine g_getI dX6_next_41 gi_1 rfl fl_RX6_53 ?_
  refine g_iconst (v := 1) dX6_next_44 (by decide) ?_
  refine g_iadd dX6_next_45 ?_
  obtain ⟨σ1, eσ1, h⟩ := bnd_nm h
  refine g_putI dX6_next_46 gi_1 rfl fp_RX6_53 (g_st eσ1 ?_)
  refine g_goto (t := 0) dX6_next_49 (by decide) ?_
  exact hk0 σ1 h
def fX6_next_162 (σ : gS) : Option (Unit × gS) :=
  some ((), σ)
set_option maxHeartbeats 4000000 in
set_option maxRecDepth 100000 in
theorem pX6_next_162 {E : gE} {r : Unit} {σ' : gS} {σ : gS} (h : fX6_next_162 σ = some (r, σ')) : gG E mX6_next 162 [] [] σ (none) σ' := by
  unfold fX6_next_162 at h
  obtain ⟨rfl, rfl⟩ := so_inj h
  exact g_vret dX6_next_162 rfl
def fX6_next_122 (σ : gS) : Option (Unit × gS) :=
  bd (fX6_figures σ) fun _ σ1 =>
  fX6_next_162 σ1
set_option maxHeartbeats 4000000 in
set_option maxRecDepth 100000 in
theorem pX6_next_122 {E : gE} {r : Unit} {σ' : gS} {σ : gS} (h : fX6_next_122 σ = some (r, σ')) : gG E mX6_next 122 [(0, .ref 1)] [] σ (none) σ' := by
  unfold fX6_next_122 at h
  refine g_aload_n dX6_next_122 rfl 0 rfl ?_
  obtain ⟨_, σ1, y2, h⟩ := bd_some h
  refine g_callVv (as := []) (st := []) (zX6_figures y2) dX6_next_123 gi_1 rfl okX6_next_81 (Nat.le_of_ble_eq_true rfl) ?_
  refine g_goto (t := 162) dX6_next_126 (by decide) ?_
  refine g_sub [] rfl ?_
  exact pX6_next_162 h
def fX6_next_149 (s1 : Int32) (σ : gS) : Option (Unit × gS) :=
  bnd (gsI σ 1 5 s1) fun σ1 =>
  bnd (gsI σ1 1 4 ((σ1.1 1 4) + 1)) fun σ2 =>
  fX6_next_162 σ2
set_option maxHeartbeats 4000000 in
set_option maxRecDepth 100000 in
theorem pX6_next_149 {E : gE} {r : Unit} {σ' : gS} {s1 : Int32} {σ : gS} (h : fX6_next_149 s1 σ = some (r, σ')) : gG E mX6_next 149 [(0, .ref 1)] [.int s1, .ref 1] σ (none) σ' := by
  unfold fX6_next_149 at h
  obtain ⟨σ1, eσ1, h⟩ := bnd_nm h
  refine g_putI dX6_next_149 gi_1 rfl fp_RX6_62 (g_st eσ1 ?_)
  refine g_aload_n dX6_next_152 rfl 0 rfl ?_
  refine g_dup dX6_next_153 rfl ?_
  refine g_getI dX6_next_154 gi_1 rfl fl_RX6_53 ?_
  refine g_iconst (v := 1) dX6_next_157 (by decide) ?_
  refine g_iadd dX6_next_158 ?_
  obtain ⟨σ2, eσ2, h⟩ := bnd_nm h
  refine g_putI dX6_next_159 gi_1 rfl fp_RX6_53 (g_st eσ2 ?_)
  refine g_sub [] rfl ?_
  exact pX6_next_162 h
def fX6_next_52 (σ : gS) : Option (Unit × gS) :=
  bnd (gsI σ 1 6 (σ.1 1 4)) fun σ1 =>
  if (σ1.1 1 4) < (σ1.1 1 1) then
    bd (fX6_isLetterAt (σ1.1 1 4) σ1) fun x3 σ4 =>
    if x3 = 0 then
      bd (fX6_isFigureAt (σ4.1 1 4) σ4) fun x7 σ8 =>
      if x7 = 0 then
        gg (¬ (σ8.1 1 4 < 0 ∨ 1200 ≤ (σ8.1 1 4).toNatClampNeg)) (
        if (σ8.1 2 ((σ8.1 1 4).toNatClampNeg)) = 45 then
          fX6_next_122 σ8
        else
          gg (¬ (σ8.1 1 4 < 0 ∨ 1200 ≤ (σ8.1 1 4).toNatClampNeg)) (
          if (σ8.1 2 ((σ8.1 1 4).toNatClampNeg)) = 59 then
            fX6_next_149 5 σ8
          else
            fX6_next_149 1 σ8))
      else
        fX6_next_122 σ8
    else
      bd (fX6_letters σ4) fun _ σ15 =>
      fX6_next_162 σ15
  else
    bnd (gsI σ1 1 5 0) fun σ17 =>
    fX6_next_162 σ17
set_option maxHeartbeats 4000000 in
set_option maxRecDepth 100000 in
theorem pX6_next_52 {E : gE} {r : Unit} {σ' : gS} {σ : gS} (h : fX6_next_52 σ = some (r, σ')) : gG E mX6_next 52 [(0, .ref 1)] [] σ (none) σ' := by
  unfold fX6_next_52 at h
  refine g_aload_n dX6_next_52 rfl 0 rfl ?_
  refine g_aload_n dX6_next_53 rfl 0 rfl ?_
  refine g_getI dX6_next_54 gi_1 rfl fl_RX6_53 ?_
  obtain ⟨σ1, eσ1, h⟩ := bnd_nm h
  refine g_putI dX6_next_57 gi_1 rfl fp_RX6_68 (g_st eσ1 ?_)
  refine g_aload_n dX6_next_60 rfl 0 rfl ?_
  refine g_getI dX6_next_61 gi_1 rfl fl_RX6_53 ?_
  refine g_aload_n dX6_next_64 rfl 0 rfl ?_
  refine g_getI dX6_next_65 gi_1 rfl fl_RX6_47 ?_
  refine g_icmp_lt (t := 79) dX6_next_68 (by decide) (fun c2 => ?_) (fun c2 => ?_)
  · replace h := if_t h c2
    refine g_aload_n dX6_next_79 rfl 0 rfl ?_
    refine g_aload_n dX6_next_80 rfl 0 rfl ?_
    refine g_getI dX6_next_81 gi_1 rfl fl_RX6_53 ?_
    obtain ⟨x3, σ4, y5, h⟩ := bd_some h
    refine g_callVr (as := [.int (σ1.1 1 4)]) (st := []) (zX6_isLetterAt y5) dX6_next_84 gi_1 rfl okX6_next_71 (Nat.le_of_ble_eq_true rfl) ?_
    refine g_if_eq (t := 97) dX6_next_87 (by decide) (fun c6 => ?_) (fun c6 => ?_)
    · replace h := if_t h c6
      refine g_aload_n dX6_next_97 rfl 0 rfl ?_
      refine g_aload_n dX6_next_98 rfl 0 rfl ?_
      refine g_getI dX6_next_99 gi_1 rfl fl_RX6_53 ?_
      obtain ⟨x7, σ8, y9, h⟩ := bd_some h
      refine g_callVr (as := [.int (σ4.1 1 4)]) (st := []) (zX6_isFigureAt y9) dX6_next_102 gi_1 rfl okX6_next_78 (Nat.le_of_ble_eq_true rfl) ?_
      refine g_if_ne (t := 122) dX6_next_105 (by decide) (fun c10 => ?_) (fun c10 => ?_)
      · replace h := if_f h c10
        exact pX6_next_122 h
      · replace h := if_t h c10
        refine g_aload_n dX6_next_108 rfl 0 rfl ?_
        refine g_getC (n := 2) dX6_next_109 gi_1 rfl fl_RX6_11 ?_
        refine g_aload_n dX6_next_112 rfl 0 rfl ?_
        refine g_getI dX6_next_113 gi_1 rfl fl_RX6_53 ?_
        obtain ⟨g11, h⟩ := gg_some h
        refine g_bald dX6_next_116 gi_2 g11 ?_
        refine g_bipush (v := 45) dX6_next_117 (by decide) ?_
        refine g_icmp_ne (t := 129) dX6_next_119 (by decide) (fun c12 => ?_) (fun c12 => ?_)
        · replace h := if_f h c12
          refine g_aload_n dX6_next_129 rfl 0 rfl ?_
          refine g_aload_n dX6_next_130 rfl 0 rfl ?_
          refine g_getC (n := 2) dX6_next_131 gi_1 rfl fl_RX6_11 ?_
          refine g_aload_n dX6_next_134 rfl 0 rfl ?_
          refine g_getI dX6_next_135 gi_1 rfl fl_RX6_53 ?_
          obtain ⟨g13, h⟩ := gg_some h
          refine g_bald dX6_next_138 gi_2 g13 ?_
          refine g_bipush (v := 59) dX6_next_139 (by decide) ?_
          refine g_icmp_ne (t := 148) dX6_next_141 (by decide) (fun c14 => ?_) (fun c14 => ?_)
          · replace h := if_f h c14
            refine g_iconst (v := 1) dX6_next_148 (by decide) ?_
            exact pX6_next_149 h
          · replace h := if_t h c14
            refine g_iconst (v := 5) dX6_next_144 (by decide) ?_
            refine g_goto (t := 149) dX6_next_145 (by decide) ?_
            exact pX6_next_149 h
        · replace h := if_t h c12
          exact pX6_next_122 h
    · replace h := if_f h c6
      refine g_aload_n dX6_next_90 rfl 0 rfl ?_
      obtain ⟨_, σ15, y16, h⟩ := bd_some h
      refine g_callVv (as := []) (st := []) (zX6_letters y16) dX6_next_91 gi_1 rfl okX6_next_75 (Nat.le_of_ble_eq_true rfl) ?_
      refine g_goto (t := 162) dX6_next_94 (by decide) ?_
      refine g_sub [] rfl ?_
      exact pX6_next_162 h
  · replace h := if_f h c2
    refine g_aload_n dX6_next_71 rfl 0 rfl ?_
    refine g_iconst (v := 0) dX6_next_72 (by decide) ?_
    obtain ⟨σ17, eσ17, h⟩ := bnd_nm h
    refine g_putI dX6_next_73 gi_1 rfl fp_RX6_62 (g_st eσ17 ?_)
    refine g_goto (t := 162) dX6_next_76 (by decide) ?_
    refine g_sub [] rfl ?_
    exact pX6_next_162 h
def fX6_next_0 : Nat → gS → Option (Unit × gS)
  | 0, _ => none
  | n + 1, σ => if (σ.1 1 1) ≤ (σ.1 1 4) then
    fX6_next_52 σ
  else
    gg (¬ (σ.1 1 4 < 0 ∨ 1200 ≤ (σ.1 1 4).toNatClampNeg)) (
    if (σ.1 2 ((σ.1 1 4).toNatClampNeg)) = 32 then
      fX6_next_39 (fun σ => fX6_next_0 n σ) σ
    else
      gg (¬ (σ.1 1 4 < 0 ∨ 1200 ≤ (σ.1 1 4).toNatClampNeg)) (
      if (σ.1 2 ((σ.1 1 4).toNatClampNeg)) = 10 then
        fX6_next_39 (fun σ => fX6_next_0 n σ) σ
      else
        fX6_next_52 σ))
set_option maxHeartbeats 4000000 in
set_option maxRecDepth 100000 in
theorem pX6_next_0 {E : gE} {r : Unit} {σ' : gS} : ∀ (n : Nat) (σ : gS), fX6_next_0 n σ = some (r, σ') → gG E mX6_next 0 [(0, .ref 1)] [] σ (none) σ' := by
  intro n
  induction n with
  | zero => intro σ h; exact absurd (show none = some (r, σ') from h) (by intro q; cases q)
  | succ n ih =>
  intro σ h
  unfold fX6_next_0 at h
  refine g_aload_n dX6_next_0 rfl 0 rfl ?_
  refine g_getI dX6_next_1 gi_1 rfl fl_RX6_53 ?_
  refine g_aload_n dX6_next_4 rfl 0 rfl ?_
  refine g_getI dX6_next_5 gi_1 rfl fl_RX6_47 ?_
  refine g_icmp_ge (t := 52) dX6_next_8 (by decide) (fun c1 => ?_) (fun c1 => ?_)
  · replace h := if_t h c1
    exact pX6_next_52 h
  · replace h := if_f h c1
    refine g_aload_n dX6_next_11 rfl 0 rfl ?_
    refine g_getC (n := 2) dX6_next_12 gi_1 rfl fl_RX6_11 ?_
    refine g_aload_n dX6_next_15 rfl 0 rfl ?_
    refine g_getI dX6_next_16 gi_1 rfl fl_RX6_53 ?_
    obtain ⟨g2, h⟩ := gg_some h
    refine g_bald dX6_next_19 gi_2 g2 ?_
    refine g_bipush (v := 32) dX6_next_20 (by decide) ?_
    refine g_icmp_eq (t := 39) dX6_next_22 (by decide) (fun c3 => ?_) (fun c3 => ?_)
    · replace h := if_t h c3
      exact pX6_next_39 (fun σ h => ih σ h) h
    · replace h := if_f h c3
      refine g_aload_n dX6_next_25 rfl 0 rfl ?_
      refine g_getC (n := 2) dX6_next_26 gi_1 rfl fl_RX6_11 ?_
      refine g_aload_n dX6_next_29 rfl 0 rfl ?_
      refine g_getI dX6_next_30 gi_1 rfl fl_RX6_53 ?_
      obtain ⟨g4, h⟩ := gg_some h
      refine g_bald dX6_next_33 gi_2 g4 ?_
      refine g_bipush (v := 10) dX6_next_34 (by decide) ?_
      refine g_icmp_ne (t := 52) dX6_next_36 (by decide) (fun c5 => ?_) (fun c5 => ?_)
      · replace h := if_f h c5
        exact pX6_next_52 h
      · replace h := if_t h c5
        exact pX6_next_39 (fun σ h => ih σ h) h
def fX6_next (σ : gS) : Option (Unit × gS) := fX6_next_0 2000 σ
theorem pX6_next {E : gE} {r : Unit} {σ' : gS} {σ : gS} (h : fX6_next σ = some (r, σ')) : gG E mX6_next 0 [(0, .ref 1)] [] σ (none) σ' := pX6_next_0 2000 σ h
theorem zX6_next {E : gE} {r : Unit} {σ σ' : gS} (h : fX6_next σ = some (r, σ')) : gC E mX6_next [.ref 1] σ (none) σ' :=
  gC_of (by decide +kernel) rfl (Nat.le_of_ble_eq_true rfl) (pX6_next h)
theorem fl_RX6_56 : gFl RX6 56 6 8 := ⟨RX6, TX6, 10, rfl, by decide, ux_6, Or.inl (gm 255 (by decide +kernel) rfl)⟩
theorem fp_RX6_56 : gFp RX6 56 6 8 .int := ⟨RX6, TX6, 10, rfl, by decide, ux_6, Or.inl (gm 255 (by decide +kernel) rfl), rfl, by decide +kernel, ⟨tyX6, tyX6_ok⟩, nmX6⟩
theorem fp_RX6_27 : gFp RX6 27 6 9 .int := ⟨RX6, TX6, 10, rfl, by decide, ux_6, Or.inl (gm 256 (by decide +kernel) rfl), rfl, by decide +kernel, ⟨tyX6, tyX6_ok⟩, nmX6⟩
def mX6_fail : gM := (yX6_fail, cX6_fail, RX6, 2, none, 0, 0)
theorem dX6_fail_0 : decode mX6_fail.2.1 0 = .ok (.aload_n 0, 1) := by decide +kernel
theorem dX6_fail_1 : decode mX6_fail.2.1 1 = .ok (.getfield 56, 3) := by decide +kernel
theorem dX6_fail_4 : decode mX6_fail.2.1 4 = .ok (.ifCond .ne 16, 3) := by decide +kernel
theorem dX6_fail_7 : decode mX6_fail.2.1 7 = .ok (.aload_n 0, 1) := by decide +kernel
theorem dX6_fail_8 : decode mX6_fail.2.1 8 = .ok (.iload_n 1, 1) := by decide +kernel
theorem dX6_fail_9 : decode mX6_fail.2.1 9 = .ok (.putfield 56, 3) := by decide +kernel
theorem dX6_fail_12 : decode mX6_fail.2.1 12 = .ok (.aload_n 0, 1) := by decide +kernel
theorem dX6_fail_13 : decode mX6_fail.2.1 13 = .ok (.aload_n 0, 1) := by decide +kernel
theorem dX6_fail_14 : decode mX6_fail.2.1 14 = .ok (.getfield 68, 3) := by decide +kernel
theorem dX6_fail_17 : decode mX6_fail.2.1 17 = .ok (.putfield 27, 3) := by decide +kernel
theorem dX6_fail_20 : decode mX6_fail.2.1 20 = .ok (.return_, 1) := by decide +kernel
def fX6_fail_20 (p1 : Int32) (σ : gS) : Option (Unit × gS) :=
  some ((), σ)
set_option maxHeartbeats 4000000 in
set_option maxRecDepth 100000 in
theorem pX6_fail_20 {E : gE} {p1 : Int32} {r : Unit} {σ' : gS} {σ : gS} (h : fX6_fail_20 p1 σ = some (r, σ')) : gG E mX6_fail 20 [] [] σ (none) σ' := by
  unfold fX6_fail_20 at h
  obtain ⟨rfl, rfl⟩ := so_inj h
  exact g_vret dX6_fail_20 rfl
def fX6_fail (p1 : Int32) (σ : gS) : Option (Unit × gS) :=
  if (σ.1 1 8) = 0 then
    bnd (gsI σ 1 8 p1) fun σ2 =>
    bnd (gsI σ2 1 9 (σ2.1 1 6)) fun σ3 =>
    fX6_fail_20 p1 σ3
  else
    fX6_fail_20 p1 σ
set_option maxHeartbeats 4000000 in
set_option maxRecDepth 100000 in
theorem pX6_fail {E : gE} {p1 : Int32} {r : Unit} {σ' : gS} {σ : gS} (h : fX6_fail p1 σ = some (r, σ')) : gG E mX6_fail 0 [(0, .ref 1), (1, .int p1)] [] σ (none) σ' := by
  unfold fX6_fail at h
  refine g_aload_n dX6_fail_0 rfl 0 rfl ?_
  refine g_getI dX6_fail_1 gi_1 rfl fl_RX6_56 ?_
  refine g_if_ne (t := 20) dX6_fail_4 (by decide) (fun c1 => ?_) (fun c1 => ?_)
  · replace h := if_f h c1
    refine g_sub [] rfl ?_
    exact pX6_fail_20 h
  · replace h := if_t h c1
    refine g_aload_n dX6_fail_7 rfl 0 rfl ?_
    refine g_iload_n dX6_fail_8 rfl 1 rfl ?_
    obtain ⟨σ2, eσ2, h⟩ := bnd_nm h
    refine g_putI dX6_fail_9 gi_1 rfl fp_RX6_56 (g_st eσ2 ?_)
    refine g_aload_n dX6_fail_12 rfl 0 rfl ?_
    refine g_aload_n dX6_fail_13 rfl 0 rfl ?_
    refine g_getI dX6_fail_14 gi_1 rfl fl_RX6_68 ?_
    obtain ⟨σ3, eσ3, h⟩ := bnd_nm h
    refine g_putI dX6_fail_17 gi_1 rfl fp_RX6_27 (g_st eσ3 ?_)
    refine g_sub [] rfl ?_
    exact pX6_fail_20 h
theorem zX6_fail {E : gE} {p1 : Int32} {r : Unit} {σ σ' : gS} (h : fX6_fail p1 σ = some (r, σ')) : gC E mX6_fail [.ref 1, .int p1] σ (none) σ' :=
  gC_of (by decide +kernel) rfl (Nat.le_of_ble_eq_true rfl) (pX6_fail h)
def mX6_failUnfit : gM := (yX6_failUnfit, cX6_failUnfit, RX6, 1, none, 1, 21)
theorem dX6_failUnfit_0 : decode mX6_failUnfit.2.1 0 = .ok (.aload_n 0, 1) := by decide +kernel
theorem dX6_failUnfit_1 : decode mX6_failUnfit.2.1 1 = .ok (.aload_n 0, 1) := by decide +kernel
theorem dX6_failUnfit_2 : decode mX6_failUnfit.2.1 2 = .ok (.getfield 62, 3) := by decide +kernel
theorem dX6_failUnfit_5 : decode mX6_failUnfit.2.1 5 = .ok (.iconst 1, 1) := by decide +kernel
theorem dX6_failUnfit_6 : decode mX6_failUnfit.2.1 6 = .ok (.if_icmp .ne 7, 3) := by decide +kernel
theorem dX6_failUnfit_9 : decode mX6_failUnfit.2.1 9 = .ok (.iconst 1, 1) := by decide +kernel
theorem dX6_failUnfit_10 : decode mX6_failUnfit.2.1 10 = .ok (.goto 4, 3) := by decide +kernel
theorem dX6_failUnfit_13 : decode mX6_failUnfit.2.1 13 = .ok (.iconst 2, 1) := by decide +kernel
theorem dX6_failUnfit_14 : decode mX6_failUnfit.2.1 14 = .ok (.invokevirtual 87, 3) := by decide +kernel
theorem dX6_failUnfit_17 : decode mX6_failUnfit.2.1 17 = .ok (.return_, 1) := by decide +kernel
theorem okX6_failUnfit_87 : gOkV mX6_failUnfit mX6_fail 87 1 := ⟨List.forall_mem_cons.mpr ⟨(gm 619 (by decide +kernel) rfl), List.forall_mem_cons.mpr ⟨(gm 616 (by decide +kernel) rfl), List.forall_mem_cons.mpr ⟨(gm 618 (by decide +kernel) rfl), List.forall_mem_cons.mpr ⟨(gm 7 (by decide +kernel) rfl), List.forall_mem_cons.mpr ⟨(gm 108 (by decide +kernel) rfl), fun _ h => absurd h List.not_mem_nil⟩⟩⟩⟩⟩, by decide +kernel, by decide +kernel, by decide +kernel⟩
def fX6_failUnfit_14 (s1 : Int32) (σ : gS) : Option (Unit × gS) :=
  bd (fX6_fail s1 σ) fun _ σ1 =>
  some ((), σ1)
set_option maxHeartbeats 4000000 in
set_option maxRecDepth 100000 in
theorem pX6_failUnfit_14 {E : gE} {r : Unit} {σ' : gS} {s1 : Int32} {σ : gS} (h : fX6_failUnfit_14 s1 σ = some (r, σ')) : gG E mX6_failUnfit 14 [] [.int s1, .ref 1] σ (none) σ' := by
  unfold fX6_failUnfit_14 at h
  obtain ⟨_, σ1, y2, h⟩ := bd_some h
  refine g_callVv (as := [.int s1]) (st := []) (zX6_fail y2) dX6_failUnfit_14 gi_1 rfl okX6_failUnfit_87 (Nat.le_of_ble_eq_true rfl) ?_
  obtain ⟨rfl, rfl⟩ := so_inj h
  exact g_vret dX6_failUnfit_17 rfl
def fX6_failUnfit (σ : gS) : Option (Unit × gS) :=
  if (σ.1 1 5) = 1 then
    fX6_failUnfit_14 1 σ
  else
    fX6_failUnfit_14 2 σ
set_option maxHeartbeats 4000000 in
set_option maxRecDepth 100000 in
theorem pX6_failUnfit {E : gE} {r : Unit} {σ' : gS} {σ : gS} (h : fX6_failUnfit σ = some (r, σ')) : gG E mX6_failUnfit 0 [(0, .ref 1)] [] σ (none) σ' := by
  unfold fX6_failUnfit at h
  refine g_aload_n dX6_failUnfit_0 rfl 0 rfl ?_
  refine g_aload_n dX6_failUnfit_1 rfl 0 rfl ?_
  refine g_getI dX6_failUnfit_2 gi_1 rfl fl_RX6_62 ?_
  refine g_iconst (v := 1) dX6_failUnfit_5 (by decide) ?_
  refine g_icmp_ne (t := 13) dX6_failUnfit_6 (by decide) (fun c1 => ?_) (fun c1 => ?_)
  · replace h := if_f h c1
    refine g_iconst (v := 2) dX6_failUnfit_13 (by decide) ?_
    refine g_sub [] rfl ?_
    exact pX6_failUnfit_14 h
  · replace h := if_t h c1
    refine g_iconst (v := 1) dX6_failUnfit_9 (by decide) ?_
    refine g_goto (t := 14) dX6_failUnfit_10 (by decide) ?_
    refine g_sub [] rfl ?_
    exact pX6_failUnfit_14 h
theorem zX6_failUnfit {E : gE} {r : Unit} {σ σ' : gS} (h : fX6_failUnfit σ = some (r, σ')) : gC E mX6_failUnfit [.ref 1] σ (none) σ' :=
  gC_of (by decide +kernel) rfl (Nat.le_of_ble_eq_true rfl) (pX6_failUnfit h)
theorem fl_RX6_22 : gFl RX6 22 6 3 := ⟨RX6, TX6, 10, rfl, by decide, ux_6, Or.inl (gm 250 (by decide +kernel) rfl)⟩
theorem wc_RX6_26 : Cond.constant RX6 26 (-1000000) ∈ gWS := (gm 193 (by decide +kernel) rfl)
def mX6_newName : gM := (yX6_newName, cX6_newName, RX6, 2, (some .int), 3, 64)
theorem dX6_newName_0 : decode mX6_newName.2.1 0 = .ok (.aload_n 0, 1) := by decide +kernel
theorem dX6_newName_1 : decode mX6_newName.2.1 1 = .ok (.getfield 56, 3) := by decide +kernel
theorem dX6_newName_4 : decode mX6_newName.2.1 4 = .ok (.ifCond .eq 6, 3) := by decide +kernel
theorem dX6_newName_7 : decode mX6_newName.2.1 7 = .ok (.ldc 26, 2) := by decide +kernel
theorem dX6_newName_9 : decode mX6_newName.2.1 9 = .ok (.ireturn, 1) := by decide +kernel
theorem dX6_newName_10 : decode mX6_newName.2.1 10 = .ok (.aload_n 0, 1) := by decide +kernel
theorem dX6_newName_11 : decode mX6_newName.2.1 11 = .ok (.invokevirtual 59, 3) := by decide +kernel
theorem dX6_newName_14 : decode mX6_newName.2.1 14 = .ok (.aload_n 0, 1) := by decide +kernel
theorem dX6_newName_15 : decode mX6_newName.2.1 15 = .ok (.getfield 62, 3) := by decide +kernel
theorem dX6_newName_18 : decode mX6_newName.2.1 18 = .ok (.iconst 3, 1) := by decide +kernel
theorem dX6_newName_19 : decode mX6_newName.2.1 19 = .ok (.if_icmp .eq 10, 3) := by decide +kernel
theorem dX6_newName_22 : decode mX6_newName.2.1 22 = .ok (.aload_n 0, 1) := by decide +kernel
theorem dX6_newName_23 : decode mX6_newName.2.1 23 = .ok (.invokevirtual 91, 3) := by decide +kernel
theorem dX6_newName_26 : decode mX6_newName.2.1 26 = .ok (.goto 62, 3) := by decide +kernel
theorem dX6_newName_29 : decode mX6_newName.2.1 29 = .ok (.aload_n 0, 1) := by decide +kernel
theorem dX6_newName_30 : decode mX6_newName.2.1 30 = .ok (.getfield 22, 3) := by decide +kernel
theorem dX6_newName_33 : decode mX6_newName.2.1 33 = .ok (.iconst 0, 1) := by decide +kernel
theorem dX6_newName_34 : decode mX6_newName.2.1 34 = .ok (.aload_n 0, 1) := by decide +kernel
theorem dX6_newName_35 : decode mX6_newName.2.1 35 = .ok (.getfield 84, 3) := by decide +kernel
theorem dX6_newName_38 : decode mX6_newName.2.1 38 = .ok (.invokevirtual 162, 3) := by decide +kernel
theorem dX6_newName_41 : decode mX6_newName.2.1 41 = .ok (.ldc 26, 2) := by decide +kernel
theorem dX6_newName_43 : decode mX6_newName.2.1 43 = .ok (.if_icmp .ne 20, 3) := by decide +kernel
theorem dX6_newName_46 : decode mX6_newName.2.1 46 = .ok (.aload_n 0, 1) := by decide +kernel
theorem dX6_newName_47 : decode mX6_newName.2.1 47 = .ok (.getfield 22, 3) := by decide +kernel
theorem dX6_newName_50 : decode mX6_newName.2.1 50 = .ok (.iconst 2, 1) := by decide +kernel
theorem dX6_newName_51 : decode mX6_newName.2.1 51 = .ok (.aload_n 0, 1) := by decide +kernel
theorem dX6_newName_52 : decode mX6_newName.2.1 52 = .ok (.getfield 84, 3) := by decide +kernel
theorem dX6_newName_55 : decode mX6_newName.2.1 55 = .ok (.invokevirtual 162, 3) := by decide +kernel
theorem dX6_newName_58 : decode mX6_newName.2.1 58 = .ok (.ldc 26, 2) := by decide +kernel
theorem dX6_newName_60 : decode mX6_newName.2.1 60 = .ok (.if_icmp .eq 11, 3) := by decide +kernel
theorem dX6_newName_63 : decode mX6_newName.2.1 63 = .ok (.aload_n 0, 1) := by decide +kernel
theorem dX6_newName_64 : decode mX6_newName.2.1 64 = .ok (.iconst 3, 1) := by decide +kernel
theorem dX6_newName_65 : decode mX6_newName.2.1 65 = .ok (.invokevirtual 87, 3) := by decide +kernel
theorem dX6_newName_68 : decode mX6_newName.2.1 68 = .ok (.goto 20, 3) := by decide +kernel
theorem dX6_newName_71 : decode mX6_newName.2.1 71 = .ok (.aload_n 0, 1) := by decide +kernel
theorem dX6_newName_72 : decode mX6_newName.2.1 72 = .ok (.getfield 22, 3) := by decide +kernel
theorem dX6_newName_75 : decode mX6_newName.2.1 75 = .ok (.iload_n 1, 1) := by decide +kernel
theorem dX6_newName_76 : decode mX6_newName.2.1 76 = .ok (.invokevirtual 137, 3) := by decide +kernel
theorem dX6_newName_79 : decode mX6_newName.2.1 79 = .ok (.ifCond .eq 9, 3) := by decide +kernel
theorem dX6_newName_82 : decode mX6_newName.2.1 82 = .ok (.aload_n 0, 1) := by decide +kernel
theorem dX6_newName_83 : decode mX6_newName.2.1 83 = .ok (.bipush 6, 2) := by decide +kernel
theorem dX6_newName_85 : decode mX6_newName.2.1 85 = .ok (.invokevirtual 87, 3) := by decide +kernel
theorem dX6_newName_88 : decode mX6_newName.2.1 88 = .ok (.aload_n 0, 1) := by decide +kernel
theorem dX6_newName_89 : decode mX6_newName.2.1 89 = .ok (.getfield 84, 3) := by decide +kernel
theorem dX6_newName_92 : decode mX6_newName.2.1 92 = .ok (.ireturn, 1) := by decide +kernel
theorem okX6_newName_87 : gOkV mX6_newName mX6_fail 87 1 := ⟨List.forall_mem_cons.mpr ⟨(gm 619 (by decide +kernel) rfl), List.forall_mem_cons.mpr ⟨(gm 616 (by decide +kernel) rfl), List.forall_mem_cons.mpr ⟨(gm 618 (by decide +kernel) rfl), List.forall_mem_cons.mpr ⟨(gm 7 (by decide +kernel) rfl), List.forall_mem_cons.mpr ⟨(gm 108 (by decide +kernel) rfl), fun _ h => absurd h List.not_mem_nil⟩⟩⟩⟩⟩, by decide +kernel, by decide +kernel, by decide +kernel⟩
theorem okX6_newName_59 : gOkV mX6_newName mX6_next 59 0 := ⟨List.forall_mem_cons.mpr ⟨(gm 591 (by decide +kernel) rfl), List.forall_mem_cons.mpr ⟨(gm 588 (by decide +kernel) rfl), List.forall_mem_cons.mpr ⟨(gm 590 (by decide +kernel) rfl), List.forall_mem_cons.mpr ⟨(gm 0 (by decide +kernel) rfl), List.forall_mem_cons.mpr ⟨(gm 108 (by decide +kernel) rfl), fun _ h => absurd h List.not_mem_nil⟩⟩⟩⟩⟩, by decide +kernel, by decide +kernel, by decide +kernel⟩
theorem okX6_newName_162 : gOkV mX6_newName mX3_numberOf 162 2 := ⟨List.forall_mem_cons.mpr ⟨(gm 631 (by decide +kernel) rfl), List.forall_mem_cons.mpr ⟨(gm 628 (by decide +kernel) rfl), List.forall_mem_cons.mpr ⟨(gm 629 (by decide +kernel) rfl), List.forall_mem_cons.mpr ⟨(gm 630 (by decide +kernel) rfl), List.forall_mem_cons.mpr ⟨(gm 109 (by decide +kernel) rfl), fun _ h => absurd h List.not_mem_nil⟩⟩⟩⟩⟩, by decide +kernel, by decide +kernel, by decide +kernel⟩
theorem okX6_newName_137 : gOkV mX6_newName mX3_isFull 137 1 := ⟨List.forall_mem_cons.mpr ⟨(gm 635 (by decide +kernel) rfl), List.forall_mem_cons.mpr ⟨(gm 632 (by decide +kernel) rfl), List.forall_mem_cons.mpr ⟨(gm 633 (by decide +kernel) rfl), List.forall_mem_cons.mpr ⟨(gm 634 (by decide +kernel) rfl), List.forall_mem_cons.mpr ⟨(gm 109 (by decide +kernel) rfl), fun _ h => absurd h List.not_mem_nil⟩⟩⟩⟩⟩, by decide +kernel, by decide +kernel, by decide +kernel⟩
theorem okX6_newName_91 : gOkV mX6_newName mX6_failUnfit 91 0 := ⟨List.forall_mem_cons.mpr ⟨(gm 615 (by decide +kernel) rfl), List.forall_mem_cons.mpr ⟨(gm 612 (by decide +kernel) rfl), List.forall_mem_cons.mpr ⟨(gm 614 (by decide +kernel) rfl), List.forall_mem_cons.mpr ⟨(gm 6 (by decide +kernel) rfl), List.forall_mem_cons.mpr ⟨(gm 108 (by decide +kernel) rfl), fun _ h => absurd h List.not_mem_nil⟩⟩⟩⟩⟩, by decide +kernel, by decide +kernel, by decide +kernel⟩
def fX6_newName_88 (p1 : Int32) (σ : gS) : Option (Int32 × gS) :=
  some (σ.1 1 7, σ)
set_option maxHeartbeats 4000000 in
set_option maxRecDepth 100000 in
theorem pX6_newName_88 {E : gE} {p1 : Int32} {r : Int32} {σ' : gS} {σ : gS} (h : fX6_newName_88 p1 σ = some (r, σ')) : gG E mX6_newName 88 [(0, .ref 1)] [] σ (some (.int r)) σ' := by
  unfold fX6_newName_88 at h
  refine g_aload_n dX6_newName_88 rfl 0 rfl ?_
  refine g_getI dX6_newName_89 gi_1 rfl fl_RX6_84 ?_
  obtain ⟨rfl, rfl⟩ := so_inj h
  exact g_iret dX6_newName_92 rfl
def fX6_newName_63 (p1 : Int32) (σ : gS) : Option (Int32 × gS) :=
  bd (fX6_fail 3 σ) fun _ σ1 =>
  fX6_newName_88 p1 σ1
set_option maxHeartbeats 4000000 in
set_option maxRecDepth 100000 in
theorem pX6_newName_63 {E : gE} {p1 : Int32} {r : Int32} {σ' : gS} {σ : gS} (h : fX6_newName_63 p1 σ = some (r, σ')) : gG E mX6_newName 63 [(0, .ref 1)] [] σ (some (.int r)) σ' := by
  unfold fX6_newName_63 at h
  refine g_aload_n dX6_newName_63 rfl 0 rfl ?_
  refine g_iconst (v := 3) dX6_newName_64 (by decide) ?_
  obtain ⟨_, σ1, y2, h⟩ := bd_some h
  refine g_callVv (as := [.int 3]) (st := []) (zX6_fail y2) dX6_newName_65 gi_1 rfl okX6_newName_87 (Nat.le_of_ble_eq_true rfl) ?_
  refine g_goto (t := 88) dX6_newName_68 (by decide) ?_
  exact pX6_newName_88 h
def fX6_newName (p1 : Int32) (σ : gS) : Option (Int32 × gS) :=
  if (σ.1 1 8) = 0 then
    bd (fX6_next σ) fun _ σ2 =>
    if (σ2.1 1 5) = 3 then
      bnd (σ2.2.2 1 3) fun x5 =>
      gg (x5 = 4 ∨ x5 = 16) (
      bd (fX3_numberOf x5 0 (σ2.1 1 7) σ2) fun x7 σ8 =>
      if x7 = (-1000000) then
        bnd (σ8.2.2 1 3) fun x11 =>
        gg (x11 = 4 ∨ x11 = 16) (
        bd (fX3_numberOf x11 2 (σ8.1 1 7) σ8) fun x13 σ14 =>
        if x13 = (-1000000) then
          bnd (σ14.2.2 1 3) fun x17 =>
          gg (x17 = 4 ∨ x17 = 16) (
          bd (fX3_isFull x17 p1 σ14) fun x19 σ20 =>
          if x19 = 0 then
            fX6_newName_88 p1 σ20
          else
            bd (fX6_fail 6 σ20) fun _ σ23 =>
            fX6_newName_88 p1 σ23)
        else
          fX6_newName_63 p1 σ14)
      else
        fX6_newName_63 p1 σ8)
    else
      bd (fX6_failUnfit σ2) fun _ σ25 =>
      fX6_newName_88 p1 σ25
  else
    some ((-1000000), σ)
set_option maxHeartbeats 4000000 in
set_option maxRecDepth 100000 in
theorem pX6_newName {E : gE} {p1 : Int32} {r : Int32} {σ' : gS} {σ : gS} (h : fX6_newName p1 σ = some (r, σ')) : gG E mX6_newName 0 [(0, .ref 1), (1, .int p1)] [] σ (some (.int r)) σ' := by
  unfold fX6_newName at h
  refine g_aload_n dX6_newName_0 rfl 0 rfl ?_
  refine g_getI dX6_newName_1 gi_1 rfl fl_RX6_56 ?_
  refine g_if_eq (t := 10) dX6_newName_4 (by decide) (fun c1 => ?_) (fun c1 => ?_)
  · replace h := if_t h c1
    refine g_aload_n dX6_newName_10 rfl 0 rfl ?_
    obtain ⟨_, σ2, y3, h⟩ := bd_some h
    refine g_callVv (as := []) (st := []) (zX6_next y3) dX6_newName_11 gi_1 rfl okX6_newName_59 (Nat.le_of_ble_eq_true rfl) ?_
    refine g_aload_n dX6_newName_14 rfl 0 rfl ?_
    refine g_getI dX6_newName_15 gi_1 rfl fl_RX6_62 ?_
    refine g_iconst (v := 3) dX6_newName_18 (by decide) ?_
    refine g_icmp_eq (t := 29) dX6_newName_19 (by decide) (fun c4 => ?_) (fun c4 => ?_)
    · replace h := if_t h c4
      refine g_aload_n dX6_newName_29 rfl 0 rfl ?_
      refine g_getR dX6_newName_30 gi_1 rfl fl_RX6_22 ?_
      obtain ⟨x5, ex5, h⟩ := bnd_nm h
      refine g_topr ex5 ?_
      obtain ⟨g6, h⟩ := gg_some h
      refine g_iconst (v := 0) dX6_newName_33 (by decide) ?_
      refine g_aload_n dX6_newName_34 rfl 0 rfl ?_
      refine g_getI dX6_newName_35 gi_1 rfl fl_RX6_84 ?_
      obtain ⟨x7, σ8, y9, h⟩ := bd_some h
      refine g_callVr (as := [.int 0, .int (σ2.1 1 7)]) (st := []) (zX3_numberOf g6 y9) dX6_newName_38 (gi_lk g6) rfl okX6_newName_162 (Nat.le_of_ble_eq_true rfl) ?_
      refine g_ldc (v := (-1000000)) dX6_newName_41 wc_RX6_26 ?_
      refine g_icmp_ne (t := 63) dX6_newName_43 (by decide) (fun c10 => ?_) (fun c10 => ?_)
      · replace h := if_f h c10
        refine g_sub [0] rfl ?_
        exact pX6_newName_63 h
      · replace h := if_t h c10
        refine g_aload_n dX6_newName_46 rfl 0 rfl ?_
        refine g_getR dX6_newName_47 gi_1 rfl fl_RX6_22 ?_
        obtain ⟨x11, ex11, h⟩ := bnd_nm h
        refine g_topr ex11 ?_
        obtain ⟨g12, h⟩ := gg_some h
        refine g_iconst (v := 2) dX6_newName_50 (by decide) ?_
        refine g_aload_n dX6_newName_51 rfl 0 rfl ?_
        refine g_getI dX6_newName_52 gi_1 rfl fl_RX6_84 ?_
        obtain ⟨x13, σ14, y15, h⟩ := bd_some h
        refine g_callVr (as := [.int 2, .int (σ8.1 1 7)]) (st := []) (zX3_numberOf g12 y15) dX6_newName_55 (gi_lk g12) rfl okX6_newName_162 (Nat.le_of_ble_eq_true rfl) ?_
        refine g_ldc (v := (-1000000)) dX6_newName_58 wc_RX6_26 ?_
        refine g_icmp_eq (t := 71) dX6_newName_60 (by decide) (fun c16 => ?_) (fun c16 => ?_)
        · replace h := if_t h c16
          refine g_aload_n dX6_newName_71 rfl 0 rfl ?_
          refine g_getR dX6_newName_72 gi_1 rfl fl_RX6_22 ?_
          obtain ⟨x17, ex17, h⟩ := bnd_nm h
          refine g_topr ex17 ?_
          obtain ⟨g18, h⟩ := gg_some h
          refine g_iload_n dX6_newName_75 rfl 1 rfl ?_
          obtain ⟨x19, σ20, y21, h⟩ := bd_some h
          refine g_callVr (as := [.int p1]) (st := []) (zX3_isFull g18 y21) dX6_newName_76 (gi_lk g18) rfl okX6_newName_137 (Nat.le_of_ble_eq_true rfl) ?_
          refine g_if_eq (t := 88) dX6_newName_79 (by decide) (fun c22 => ?_) (fun c22 => ?_)
          · replace h := if_t h c22
            refine g_sub [0] rfl ?_
            exact pX6_newName_88 h
          · replace h := if_f h c22
            refine g_aload_n dX6_newName_82 rfl 0 rfl ?_
            refine g_bipush (v := 6) dX6_newName_83 (by decide) ?_
            obtain ⟨_, σ23, y24, h⟩ := bd_some h
            refine g_callVv (as := [.int 6]) (st := []) (zX6_fail y24) dX6_newName_85 gi_1 rfl okX6_newName_87 (Nat.le_of_ble_eq_true rfl) ?_
            refine g_sub [0] rfl ?_
            exact pX6_newName_88 h
        · replace h := if_f h c16
          refine g_sub [0] rfl ?_
          exact pX6_newName_63 h
    · replace h := if_f h c4
      refine g_aload_n dX6_newName_22 rfl 0 rfl ?_
      obtain ⟨_, σ25, y26, h⟩ := bd_some h
      refine g_callVv (as := []) (st := []) (zX6_failUnfit y26) dX6_newName_23 gi_1 rfl okX6_newName_91 (Nat.le_of_ble_eq_true rfl) ?_
      refine g_goto (t := 88) dX6_newName_26 (by decide) ?_
      refine g_sub [0] rfl ?_
      exact pX6_newName_88 h
  · replace h := if_f h c1
    refine g_ldc (v := (-1000000)) dX6_newName_7 wc_RX6_26 ?_
    obtain ⟨rfl, rfl⟩ := so_inj h
    exact g_iret dX6_newName_9 rfl
theorem zX6_newName {E : gE} {p1 : Int32} {r : Int32} {σ σ' : gS} (h : fX6_newName p1 σ = some (r, σ')) : gC E mX6_newName [.ref 1, .int p1] σ (some (.int r)) σ' :=
  gC_of (by decide +kernel) rfl (Nat.le_of_ble_eq_true rfl) (pX6_newName h)
def mX6_number : gM := (yX6_number, cX6_number, RX6, 3, (some .int), 3, 64)
theorem dX6_number_0 : decode mX6_number.2.1 0 = .ok (.aload_n 0, 1) := by decide +kernel
theorem dX6_number_1 : decode mX6_number.2.1 1 = .ok (.getfield 56, 3) := by decide +kernel
theorem dX6_number_4 : decode mX6_number.2.1 4 = .ok (.ifCond .eq 6, 3) := by decide +kernel
theorem dX6_number_7 : decode mX6_number.2.1 7 = .ok (.ldc 26, 2) := by decide +kernel
theorem dX6_number_9 : decode mX6_number.2.1 9 = .ok (.ireturn, 1) := by decide +kernel
theorem dX6_number_10 : decode mX6_number.2.1 10 = .ok (.aload_n 0, 1) := by decide +kernel
theorem dX6_number_11 : decode mX6_number.2.1 11 = .ok (.invokevirtual 59, 3) := by decide +kernel
theorem dX6_number_14 : decode mX6_number.2.1 14 = .ok (.aload_n 0, 1) := by decide +kernel
theorem dX6_number_15 : decode mX6_number.2.1 15 = .ok (.getfield 62, 3) := by decide +kernel
theorem dX6_number_18 : decode mX6_number.2.1 18 = .ok (.iconst 4, 1) := by decide +kernel
theorem dX6_number_19 : decode mX6_number.2.1 19 = .ok (.if_icmp .eq 10, 3) := by decide +kernel
theorem dX6_number_22 : decode mX6_number.2.1 22 = .ok (.aload_n 0, 1) := by decide +kernel
theorem dX6_number_23 : decode mX6_number.2.1 23 = .ok (.invokevirtual 91, 3) := by decide +kernel
theorem dX6_number_26 : decode mX6_number.2.1 26 = .ok (.goto 24, 3) := by decide +kernel
theorem dX6_number_29 : decode mX6_number.2.1 29 = .ok (.aload_n 0, 1) := by decide +kernel
theorem dX6_number_30 : decode mX6_number.2.1 30 = .ok (.getfield 84, 3) := by decide +kernel
theorem dX6_number_33 : decode mX6_number.2.1 33 = .ok (.iload_n 1, 1) := by decide +kernel
theorem dX6_number_34 : decode mX6_number.2.1 34 = .ok (.if_icmp .lt 11, 3) := by decide +kernel
theorem dX6_number_37 : decode mX6_number.2.1 37 = .ok (.aload_n 0, 1) := by decide +kernel
theorem dX6_number_38 : decode mX6_number.2.1 38 = .ok (.getfield 84, 3) := by decide +kernel
theorem dX6_number_41 : decode mX6_number.2.1 41 = .ok (.iload_n 2, 1) := by decide +kernel
theorem dX6_number_42 : decode mX6_number.2.1 42 = .ok (.if_icmp .le 8, 3) := by decide +kernel
theorem dX6_number_45 : decode mX6_number.2.1 45 = .ok (.aload_n 0, 1) := by decide +kernel
theorem dX6_number_46 : decode mX6_number.2.1 46 = .ok (.iconst 5, 1) := by decide +kernel
theorem dX6_number_47 : decode mX6_number.2.1 47 = .ok (.invokevirtual 87, 3) := by decide +kernel
theorem dX6_number_50 : decode mX6_number.2.1 50 = .ok (.aload_n 0, 1) := by decide +kernel
theorem dX6_number_51 : decode mX6_number.2.1 51 = .ok (.getfield 84, 3) := by decide +kernel
theorem dX6_number_54 : decode mX6_number.2.1 54 = .ok (.ireturn, 1) := by decide +kernel
theorem okX6_number_87 : gOkV mX6_number mX6_fail 87 1 := ⟨List.forall_mem_cons.mpr ⟨(gm 619 (by decide +kernel) rfl), List.forall_mem_cons.mpr ⟨(gm 616 (by decide +kernel) rfl), List.forall_mem_cons.mpr ⟨(gm 618 (by decide +kernel) rfl), List.forall_mem_cons.mpr ⟨(gm 7 (by decide +kernel) rfl), List.forall_mem_cons.mpr ⟨(gm 108 (by decide +kernel) rfl), fun _ h => absurd h List.not_mem_nil⟩⟩⟩⟩⟩, by decide +kernel, by decide +kernel, by decide +kernel⟩
theorem okX6_number_59 : gOkV mX6_number mX6_next 59 0 := ⟨List.forall_mem_cons.mpr ⟨(gm 591 (by decide +kernel) rfl), List.forall_mem_cons.mpr ⟨(gm 588 (by decide +kernel) rfl), List.forall_mem_cons.mpr ⟨(gm 590 (by decide +kernel) rfl), List.forall_mem_cons.mpr ⟨(gm 0 (by decide +kernel) rfl), List.forall_mem_cons.mpr ⟨(gm 108 (by decide +kernel) rfl), fun _ h => absurd h List.not_mem_nil⟩⟩⟩⟩⟩, by decide +kernel, by decide +kernel, by decide +kernel⟩
theorem okX6_number_91 : gOkV mX6_number mX6_failUnfit 91 0 := ⟨List.forall_mem_cons.mpr ⟨(gm 615 (by decide +kernel) rfl), List.forall_mem_cons.mpr ⟨(gm 612 (by decide +kernel) rfl), List.forall_mem_cons.mpr ⟨(gm 614 (by decide +kernel) rfl), List.forall_mem_cons.mpr ⟨(gm 6 (by decide +kernel) rfl), List.forall_mem_cons.mpr ⟨(gm 108 (by decide +kernel) rfl), fun _ h => absurd h List.not_mem_nil⟩⟩⟩⟩⟩, by decide +kernel, by decide +kernel, by decide +kernel⟩
def fX6_number_50 (p1 : Int32) (p2 : Int32) (σ : gS) : Option (Int32 × gS) :=
  some (σ.1 1 7, σ)
set_option maxHeartbeats 4000000 in
set_option maxRecDepth 100000 in
theorem pX6_number_50 {E : gE} {p1 : Int32} {p2 : Int32} {r : Int32} {σ' : gS} {σ : gS} (h : fX6_number_50 p1 p2 σ = some (r, σ')) : gG E mX6_number 50 [(0, .ref 1)] [] σ (some (.int r)) σ' := by
  unfold fX6_number_50 at h
  refine g_aload_n dX6_number_50 rfl 0 rfl ?_
  refine g_getI dX6_number_51 gi_1 rfl fl_RX6_84 ?_
  obtain ⟨rfl, rfl⟩ := so_inj h
  exact g_iret dX6_number_54 rfl
def fX6_number_45 (p1 : Int32) (p2 : Int32) (σ : gS) : Option (Int32 × gS) :=
  bd (fX6_fail 5 σ) fun _ σ1 =>
  fX6_number_50 p1 p2 σ1
set_option maxHeartbeats 4000000 in
set_option maxRecDepth 100000 in
theorem pX6_number_45 {E : gE} {p1 : Int32} {p2 : Int32} {r : Int32} {σ' : gS} {σ : gS} (h : fX6_number_45 p1 p2 σ = some (r, σ')) : gG E mX6_number 45 [(0, .ref 1)] [] σ (some (.int r)) σ' := by
  unfold fX6_number_45 at h
  refine g_aload_n dX6_number_45 rfl 0 rfl ?_
  refine g_iconst (v := 5) dX6_number_46 (by decide) ?_
  obtain ⟨_, σ1, y2, h⟩ := bd_some h
  refine g_callVv (as := [.int 5]) (st := []) (zX6_fail y2) dX6_number_47 gi_1 rfl okX6_number_87 (Nat.le_of_ble_eq_true rfl) ?_
  exact pX6_number_50 h
def fX6_number (p1 : Int32) (p2 : Int32) (σ : gS) : Option (Int32 × gS) :=
  if (σ.1 1 8) = 0 then
    bd (fX6_next σ) fun _ σ2 =>
    if (σ2.1 1 5) = 4 then
      if (σ2.1 1 7) < p1 then
        fX6_number_45 p1 p2 σ2
      else
        if (σ2.1 1 7) ≤ p2 then
          fX6_number_50 p1 p2 σ2
        else
          fX6_number_45 p1 p2 σ2
    else
      bd (fX6_failUnfit σ2) fun _ σ7 =>
      fX6_number_50 p1 p2 σ7
  else
    some ((-1000000), σ)
set_option maxHeartbeats 4000000 in
set_option maxRecDepth 100000 in
theorem pX6_number {E : gE} {p1 : Int32} {p2 : Int32} {r : Int32} {σ' : gS} {σ : gS} (h : fX6_number p1 p2 σ = some (r, σ')) : gG E mX6_number 0 [(0, .ref 1), (1, .int p1), (2, .int p2)] [] σ (some (.int r)) σ' := by
  unfold fX6_number at h
  refine g_aload_n dX6_number_0 rfl 0 rfl ?_
  refine g_getI dX6_number_1 gi_1 rfl fl_RX6_56 ?_
  refine g_if_eq (t := 10) dX6_number_4 (by decide) (fun c1 => ?_) (fun c1 => ?_)
  · replace h := if_t h c1
    refine g_aload_n dX6_number_10 rfl 0 rfl ?_
    obtain ⟨_, σ2, y3, h⟩ := bd_some h
    refine g_callVv (as := []) (st := []) (zX6_next y3) dX6_number_11 gi_1 rfl okX6_number_59 (Nat.le_of_ble_eq_true rfl) ?_
    refine g_aload_n dX6_number_14 rfl 0 rfl ?_
    refine g_getI dX6_number_15 gi_1 rfl fl_RX6_62 ?_
    refine g_iconst (v := 4) dX6_number_18 (by decide) ?_
    refine g_icmp_eq (t := 29) dX6_number_19 (by decide) (fun c4 => ?_) (fun c4 => ?_)
    · replace h := if_t h c4
      refine g_aload_n dX6_number_29 rfl 0 rfl ?_
      refine g_getI dX6_number_30 gi_1 rfl fl_RX6_84 ?_
      refine g_iload_n dX6_number_33 rfl 1 rfl ?_
      refine g_icmp_lt (t := 45) dX6_number_34 (by decide) (fun c5 => ?_) (fun c5 => ?_)
      · replace h := if_t h c5
        refine g_sub [0] rfl ?_
        exact pX6_number_45 h
      · replace h := if_f h c5
        refine g_aload_n dX6_number_37 rfl 0 rfl ?_
        refine g_getI dX6_number_38 gi_1 rfl fl_RX6_84 ?_
        refine g_iload_n dX6_number_41 rfl 2 rfl ?_
        refine g_icmp_le (t := 50) dX6_number_42 (by decide) (fun c6 => ?_) (fun c6 => ?_)
        · replace h := if_t h c6
          refine g_sub [0] rfl ?_
          exact pX6_number_50 h
        · replace h := if_f h c6
          refine g_sub [0] rfl ?_
          exact pX6_number_45 h
    · replace h := if_f h c4
      refine g_aload_n dX6_number_22 rfl 0 rfl ?_
      obtain ⟨_, σ7, y8, h⟩ := bd_some h
      refine g_callVv (as := []) (st := []) (zX6_failUnfit y8) dX6_number_23 gi_1 rfl okX6_number_91 (Nat.le_of_ble_eq_true rfl) ?_
      refine g_goto (t := 50) dX6_number_26 (by decide) ?_
      refine g_sub [0] rfl ?_
      exact pX6_number_50 h
  · replace h := if_f h c1
    refine g_ldc (v := (-1000000)) dX6_number_7 wc_RX6_26 ?_
    obtain ⟨rfl, rfl⟩ := so_inj h
    exact g_iret dX6_number_9 rfl
theorem zX6_number {E : gE} {p1 : Int32} {p2 : Int32} {r : Int32} {σ σ' : gS} (h : fX6_number p1 p2 σ = some (r, σ')) : gC E mX6_number [.ref 1, .int p1, .int p2] σ (some (.int r)) σ' :=
  gC_of (by decide +kernel) rfl (Nat.le_of_ble_eq_true rfl) (pX6_number h)
def mX6_expectSign : gM := (yX6_expectSign, cX6_expectSign, RX6, 1, none, 3, 64)
theorem dX6_expectSign_0 : decode mX6_expectSign.2.1 0 = .ok (.aload_n 0, 1) := by decide +kernel
theorem dX6_expectSign_1 : decode mX6_expectSign.2.1 1 = .ok (.getfield 56, 3) := by decide +kernel
theorem dX6_expectSign_4 : decode mX6_expectSign.2.1 4 = .ok (.ifCond .eq 4, 3) := by decide +kernel
theorem dX6_expectSign_7 : decode mX6_expectSign.2.1 7 = .ok (.return_, 1) := by decide +kernel
theorem dX6_expectSign_8 : decode mX6_expectSign.2.1 8 = .ok (.aload_n 0, 1) := by decide +kernel
theorem dX6_expectSign_9 : decode mX6_expectSign.2.1 9 = .ok (.invokevirtual 59, 3) := by decide +kernel
theorem dX6_expectSign_12 : decode mX6_expectSign.2.1 12 = .ok (.aload_n 0, 1) := by decide +kernel
theorem dX6_expectSign_13 : decode mX6_expectSign.2.1 13 = .ok (.getfield 62, 3) := by decide +kernel
theorem dX6_expectSign_16 : decode mX6_expectSign.2.1 16 = .ok (.iconst 5, 1) := by decide +kernel
theorem dX6_expectSign_17 : decode mX6_expectSign.2.1 17 = .ok (.if_icmp .eq 7, 3) := by decide +kernel
theorem dX6_expectSign_20 : decode mX6_expectSign.2.1 20 = .ok (.aload_n 0, 1) := by decide +kernel
theorem dX6_expectSign_21 : decode mX6_expectSign.2.1 21 = .ok (.invokevirtual 91, 3) := by decide +kernel
theorem dX6_expectSign_24 : decode mX6_expectSign.2.1 24 = .ok (.return_, 1) := by decide +kernel
theorem okX6_expectSign_59 : gOkV mX6_expectSign mX6_next 59 0 := ⟨List.forall_mem_cons.mpr ⟨(gm 591 (by decide +kernel) rfl), List.forall_mem_cons.mpr ⟨(gm 588 (by decide +kernel) rfl), List.forall_mem_cons.mpr ⟨(gm 590 (by decide +kernel) rfl), List.forall_mem_cons.mpr ⟨(gm 0 (by decide +kernel) rfl), List.forall_mem_cons.mpr ⟨(gm 108 (by decide +kernel) rfl), fun _ h => absurd h List.not_mem_nil⟩⟩⟩⟩⟩, by decide +kernel, by decide +kernel, by decide +kernel⟩
theorem okX6_expectSign_91 : gOkV mX6_expectSign mX6_failUnfit 91 0 := ⟨List.forall_mem_cons.mpr ⟨(gm 615 (by decide +kernel) rfl), List.forall_mem_cons.mpr ⟨(gm 612 (by decide +kernel) rfl), List.forall_mem_cons.mpr ⟨(gm 614 (by decide +kernel) rfl), List.forall_mem_cons.mpr ⟨(gm 6 (by decide +kernel) rfl), List.forall_mem_cons.mpr ⟨(gm 108 (by decide +kernel) rfl), fun _ h => absurd h List.not_mem_nil⟩⟩⟩⟩⟩, by decide +kernel, by decide +kernel, by decide +kernel⟩
def fX6_expectSign_24 (σ : gS) : Option (Unit × gS) :=
  some ((), σ)
set_option maxHeartbeats 4000000 in
set_option maxRecDepth 100000 in
theorem pX6_expectSign_24 {E : gE} {r : Unit} {σ' : gS} {σ : gS} (h : fX6_expectSign_24 σ = some (r, σ')) : gG E mX6_expectSign 24 [] [] σ (none) σ' := by
  unfold fX6_expectSign_24 at h
  obtain ⟨rfl, rfl⟩ := so_inj h
  exact g_vret dX6_expectSign_24 rfl
def fX6_expectSign (σ : gS) : Option (Unit × gS) :=
  if (σ.1 1 8) = 0 then
    bd (fX6_next σ) fun _ σ2 =>
    if (σ2.1 1 5) = 5 then
      fX6_expectSign_24 σ2
    else
      bd (fX6_failUnfit σ2) fun _ σ5 =>
      fX6_expectSign_24 σ5
  else
    some ((), σ)
set_option maxHeartbeats 4000000 in
set_option maxRecDepth 100000 in
theorem pX6_expectSign {E : gE} {r : Unit} {σ' : gS} {σ : gS} (h : fX6_expectSign σ = some (r, σ')) : gG E mX6_expectSign 0 [(0, .ref 1)] [] σ (none) σ' := by
  unfold fX6_expectSign at h
  refine g_aload_n dX6_expectSign_0 rfl 0 rfl ?_
  refine g_getI dX6_expectSign_1 gi_1 rfl fl_RX6_56 ?_
  refine g_if_eq (t := 8) dX6_expectSign_4 (by decide) (fun c1 => ?_) (fun c1 => ?_)
  · replace h := if_t h c1
    refine g_aload_n dX6_expectSign_8 rfl 0 rfl ?_
    obtain ⟨_, σ2, y3, h⟩ := bd_some h
    refine g_callVv (as := []) (st := []) (zX6_next y3) dX6_expectSign_9 gi_1 rfl okX6_expectSign_59 (Nat.le_of_ble_eq_true rfl) ?_
    refine g_aload_n dX6_expectSign_12 rfl 0 rfl ?_
    refine g_getI dX6_expectSign_13 gi_1 rfl fl_RX6_62 ?_
    refine g_iconst (v := 5) dX6_expectSign_16 (by decide) ?_
    refine g_icmp_eq (t := 24) dX6_expectSign_17 (by decide) (fun c4 => ?_) (fun c4 => ?_)
    · replace h := if_t h c4
      refine g_sub [] rfl ?_
      exact pX6_expectSign_24 h
    · replace h := if_f h c4
      refine g_aload_n dX6_expectSign_20 rfl 0 rfl ?_
      obtain ⟨_, σ5, y6, h⟩ := bd_some h
      refine g_callVv (as := []) (st := []) (zX6_failUnfit y6) dX6_expectSign_21 gi_1 rfl okX6_expectSign_91 (Nat.le_of_ble_eq_true rfl) ?_
      refine g_sub [] rfl ?_
      exact pX6_expectSign_24 h
  · replace h := if_f h c1
    obtain ⟨rfl, rfl⟩ := so_inj h
    exact g_vret dX6_expectSign_7 rfl
theorem zX6_expectSign {E : gE} {r : Unit} {σ σ' : gS} (h : fX6_expectSign σ = some (r, σ')) : gC E mX6_expectSign [.ref 1] σ (none) σ' :=
  gC_of (by decide +kernel) rfl (Nat.le_of_ble_eq_true rfl) (pX6_expectSign h)
def mX6_joint : gM := (yX6_joint, cX6_joint, RX6, 5, none, 4, 86)
theorem dX6_joint_0 : decode mX6_joint.2.1 0 = .ok (.aload_n 0, 1) := by decide +kernel
theorem dX6_joint_1 : decode mX6_joint.2.1 1 = .ok (.iconst 0, 1) := by decide +kernel
theorem dX6_joint_2 : decode mX6_joint.2.1 2 = .ok (.invokevirtual 113, 3) := by decide +kernel
theorem dX6_joint_5 : decode mX6_joint.2.1 5 = .ok (.istore_n 2, 1) := by decide +kernel
theorem dX6_joint_6 : decode mX6_joint.2.1 6 = .ok (.aload_n 0, 1) := by decide +kernel
theorem dX6_joint_7 : decode mX6_joint.2.1 7 = .ok (.sipush (-1000), 3) := by decide +kernel
theorem dX6_joint_10 : decode mX6_joint.2.1 10 = .ok (.sipush 1000, 3) := by decide +kernel
theorem dX6_joint_13 : decode mX6_joint.2.1 13 = .ok (.invokevirtual 117, 3) := by decide +kernel
theorem dX6_joint_16 : decode mX6_joint.2.1 16 = .ok (.istore_n 3, 1) := by decide +kernel
theorem dX6_joint_17 : decode mX6_joint.2.1 17 = .ok (.aload_n 0, 1) := by decide +kernel
theorem dX6_joint_18 : decode mX6_joint.2.1 18 = .ok (.sipush (-1000), 3) := by decide +kernel
theorem dX6_joint_21 : decode mX6_joint.2.1 21 = .ok (.sipush 1000, 3) := by decide +kernel
theorem dX6_joint_24 : decode mX6_joint.2.1 24 = .ok (.invokevirtual 117, 3) := by decide +kernel
theorem dX6_joint_27 : decode mX6_joint.2.1 27 = .ok (.istore 4, 2) := by decide +kernel
theorem dX6_joint_29 : decode mX6_joint.2.1 29 = .ok (.aload_n 0, 1) := by decide +kernel
theorem dX6_joint_30 : decode mX6_joint.2.1 30 = .ok (.invokevirtual 120, 3) := by decide +kernel
theorem dX6_joint_33 : decode mX6_joint.2.1 33 = .ok (.aload_n 0, 1) := by decide +kernel
theorem dX6_joint_34 : decode mX6_joint.2.1 34 = .ok (.getfield 56, 3) := by decide +kernel
theorem dX6_joint_37 : decode mX6_joint.2.1 37 = .ok (.ifCond .ne 15, 3) := by decide +kernel
theorem dX6_joint_40 : decode mX6_joint.2.1 40 = .ok (.aload_n 0, 1) := by decide +kernel
theorem dX6_joint_41 : decode mX6_joint.2.1 41 = .ok (.getfield 22, 3) := by decide +kernel
theorem dX6_joint_44 : decode mX6_joint.2.1 44 = .ok (.iload_n 1, 1) := by decide +kernel
theorem dX6_joint_45 : decode mX6_joint.2.1 45 = .ok (.iload_n 2, 1) := by decide +kernel
theorem dX6_joint_46 : decode mX6_joint.2.1 46 = .ok (.iload_n 3, 1) := by decide +kernel
theorem dX6_joint_47 : decode mX6_joint.2.1 47 = .ok (.iload 4, 2) := by decide +kernel
theorem dX6_joint_49 : decode mX6_joint.2.1 49 = .ok (.invokevirtual 123, 3) := by decide +kernel
theorem dX6_joint_52 : decode mX6_joint.2.1 52 = .ok (.return_, 1) := by decide +kernel
theorem okX6_joint_113 : gOkV mX6_joint mX6_newName 113 1 := ⟨List.forall_mem_cons.mpr ⟨(gm 627 (by decide +kernel) rfl), List.forall_mem_cons.mpr ⟨(gm 624 (by decide +kernel) rfl), List.forall_mem_cons.mpr ⟨(gm 626 (by decide +kernel) rfl), List.forall_mem_cons.mpr ⟨(gm 9 (by decide +kernel) rfl), List.forall_mem_cons.mpr ⟨(gm 108 (by decide +kernel) rfl), fun _ h => absurd h List.not_mem_nil⟩⟩⟩⟩⟩, by decide +kernel, by decide +kernel, by decide +kernel⟩
theorem okX6_joint_117 : gOkV mX6_joint mX6_number 117 2 := ⟨List.forall_mem_cons.mpr ⟨(gm 641 (by decide +kernel) rfl), List.forall_mem_cons.mpr ⟨(gm 638 (by decide +kernel) rfl), List.forall_mem_cons.mpr ⟨(gm 640 (by decide +kernel) rfl), List.forall_mem_cons.mpr ⟨(gm 10 (by decide +kernel) rfl), List.forall_mem_cons.mpr ⟨(gm 108 (by decide +kernel) rfl), fun _ h => absurd h List.not_mem_nil⟩⟩⟩⟩⟩, by decide +kernel, by decide +kernel, by decide +kernel⟩
theorem okX6_joint_120 : gOkV mX6_joint mX6_expectSign 120 0 := ⟨List.forall_mem_cons.mpr ⟨(gm 645 (by decide +kernel) rfl), List.forall_mem_cons.mpr ⟨(gm 642 (by decide +kernel) rfl), List.forall_mem_cons.mpr ⟨(gm 644 (by decide +kernel) rfl), List.forall_mem_cons.mpr ⟨(gm 11 (by decide +kernel) rfl), List.forall_mem_cons.mpr ⟨(gm 108 (by decide +kernel) rfl), fun _ h => absurd h List.not_mem_nil⟩⟩⟩⟩⟩, by decide +kernel, by decide +kernel, by decide +kernel⟩
theorem okX6_joint_123 : gOkV mX6_joint mX3_add 123 4 := ⟨List.forall_mem_cons.mpr ⟨(gm 649 (by decide +kernel) rfl), List.forall_mem_cons.mpr ⟨(gm 646 (by decide +kernel) rfl), List.forall_mem_cons.mpr ⟨(gm 647 (by decide +kernel) rfl), List.forall_mem_cons.mpr ⟨(gm 648 (by decide +kernel) rfl), List.forall_mem_cons.mpr ⟨(gm 109 (by decide +kernel) rfl), fun _ h => absurd h List.not_mem_nil⟩⟩⟩⟩⟩, by decide +kernel, by decide +kernel, by decide +kernel⟩
def fX6_joint_52 (p1 : Int32) (σ : gS) : Option (Unit × gS) :=
  some ((), σ)
set_option maxHeartbeats 4000000 in
set_option maxRecDepth 100000 in
theorem pX6_joint_52 {E : gE} {p1 : Int32} {r : Unit} {σ' : gS} {σ : gS} (h : fX6_joint_52 p1 σ = some (r, σ')) : gG E mX6_joint 52 [] [] σ (none) σ' := by
  unfold fX6_joint_52 at h
  obtain ⟨rfl, rfl⟩ := so_inj h
  exact g_vret dX6_joint_52 rfl
def fX6_joint (p1 : Int32) (σ : gS) : Option (Unit × gS) :=
  bd (fX6_newName 0 σ) fun x1 σ2 =>
  bd (fX6_number (-1000) 1000 σ2) fun x4 σ5 =>
  bd (fX6_number (-1000) 1000 σ5) fun x7 σ8 =>
  bd (fX6_expectSign σ8) fun _ σ10 =>
  if (σ10.1 1 8) = 0 then
    bnd (σ10.2.2 1 3) fun x13 =>
    gg (x13 = 4 ∨ x13 = 16) (
    bd (fX3_add x13 p1 x1 x4 x7 σ10) fun _ σ15 =>
    fX6_joint_52 p1 σ15)
  else
    fX6_joint_52 p1 σ10
set_option maxHeartbeats 4000000 in
set_option maxRecDepth 100000 in
theorem pX6_joint {E : gE} {p1 : Int32} {r : Unit} {σ' : gS} {σ : gS} (h : fX6_joint p1 σ = some (r, σ')) : gG E mX6_joint 0 [(0, .ref 1), (1, .int p1)] [] σ (none) σ' := by
  unfold fX6_joint at h
  refine g_aload_n dX6_joint_0 rfl 0 rfl ?_
  refine g_iconst (v := 0) dX6_joint_1 (by decide) ?_
  obtain ⟨x1, σ2, y3, h⟩ := bd_some h
  refine g_callVr (as := [.int 0]) (st := []) (zX6_newName y3) dX6_joint_2 gi_1 rfl okX6_joint_113 (Nat.le_of_ble_eq_true rfl) ?_
  refine g_istore_n (lv' := [(2, .int x1), (0, .ref 1), (1, .int p1)]) dX6_joint_5 rfl (Nat.le_of_ble_eq_true rfl) rfl ?_
  refine g_aload_n dX6_joint_6 rfl 1 rfl ?_
  refine g_sipush (v := (-1000)) dX6_joint_7 (by decide) ?_
  refine g_sipush (v := 1000) dX6_joint_10 (by decide) ?_
  obtain ⟨x4, σ5, y6, h⟩ := bd_some h
  refine g_callVr (as := [.int (-1000), .int 1000]) (st := []) (zX6_number y6) dX6_joint_13 gi_1 rfl okX6_joint_117 (Nat.le_of_ble_eq_true rfl) ?_
  refine g_istore_n (lv' := [(3, .int x4), (2, .int x1), (0, .ref 1), (1, .int p1)]) dX6_joint_16 rfl (Nat.le_of_ble_eq_true rfl) rfl ?_
  refine g_aload_n dX6_joint_17 rfl 2 rfl ?_
  refine g_sipush (v := (-1000)) dX6_joint_18 (by decide) ?_
  refine g_sipush (v := 1000) dX6_joint_21 (by decide) ?_
  obtain ⟨x7, σ8, y9, h⟩ := bd_some h
  refine g_callVr (as := [.int (-1000), .int 1000]) (st := []) (zX6_number y9) dX6_joint_24 gi_1 rfl okX6_joint_117 (Nat.le_of_ble_eq_true rfl) ?_
  refine g_istore (lv' := [(4, .int x7), (3, .int x4), (2, .int x1), (0, .ref 1), (1, .int p1)]) dX6_joint_27 (Nat.le_of_ble_eq_true rfl) rfl ?_
  refine g_aload_n dX6_joint_29 rfl 3 rfl ?_
  obtain ⟨_, σ10, y11, h⟩ := bd_some h
  refine g_callVv (as := []) (st := []) (zX6_expectSign y11) dX6_joint_30 gi_1 rfl okX6_joint_120 (Nat.le_of_ble_eq_true rfl) ?_
  refine g_aload_n dX6_joint_33 rfl 3 rfl ?_
  refine g_getI dX6_joint_34 gi_1 rfl fl_RX6_56 ?_
  refine g_if_ne (t := 52) dX6_joint_37 (by decide) (fun c12 => ?_) (fun c12 => ?_)
  · replace h := if_f h c12
    refine g_sub [] rfl ?_
    exact pX6_joint_52 h
  · replace h := if_t h c12
    refine g_aload_n dX6_joint_40 rfl 3 rfl ?_
    refine g_getR dX6_joint_41 gi_1 rfl fl_RX6_22 ?_
    obtain ⟨x13, ex13, h⟩ := bnd_nm h
    refine g_topr ex13 ?_
    obtain ⟨g14, h⟩ := gg_some h
    refine g_iload_n dX6_joint_44 rfl 4 rfl ?_
    refine g_iload_n dX6_joint_45 rfl 2 rfl ?_
    refine g_iload_n dX6_joint_46 rfl 1 rfl ?_
    refine g_iload dX6_joint_47 0 rfl ?_
    obtain ⟨_, σ15, y16, h⟩ := bd_some h
    refine g_callVv (as := [.int p1, .int x1, .int x4, .int x7]) (st := []) (zX3_add g14 y16) dX6_joint_49 (gi_lk g14) rfl okX6_joint_123 (Nat.le_of_ble_eq_true rfl) ?_
    refine g_sub [] rfl ?_
    exact pX6_joint_52 h
theorem zX6_joint {E : gE} {p1 : Int32} {r : Unit} {σ σ' : gS} (h : fX6_joint p1 σ = some (r, σ')) : gC E mX6_joint [.ref 1, .int p1] σ (none) σ' :=
  gC_of (by decide +kernel) rfl (Nat.le_of_ble_eq_true rfl) (pX6_joint h)
def mX6_knownHere : gM := (yX6_knownHere, cX6_knownHere, RX6, 3, (some .int), 2, 41)
theorem dX6_knownHere_0 : decode mX6_knownHere.2.1 0 = .ok (.aload_n 0, 1) := by decide +kernel
theorem dX6_knownHere_1 : decode mX6_knownHere.2.1 1 = .ok (.getfield 62, 3) := by decide +kernel
theorem dX6_knownHere_4 : decode mX6_knownHere.2.1 4 = .ok (.iconst 3, 1) := by decide +kernel
theorem dX6_knownHere_5 : decode mX6_knownHere.2.1 5 = .ok (.if_icmp .eq 10, 3) := by decide +kernel
theorem dX6_knownHere_8 : decode mX6_knownHere.2.1 8 = .ok (.aload_n 0, 1) := by decide +kernel
theorem dX6_knownHere_9 : decode mX6_knownHere.2.1 9 = .ok (.invokevirtual 91, 3) := by decide +kernel
theorem dX6_knownHere_12 : decode mX6_knownHere.2.1 12 = .ok (.ldc 26, 2) := by decide +kernel
theorem dX6_knownHere_14 : decode mX6_knownHere.2.1 14 = .ok (.ireturn, 1) := by decide +kernel
theorem dX6_knownHere_15 : decode mX6_knownHere.2.1 15 = .ok (.aload_n 0, 1) := by decide +kernel
theorem dX6_knownHere_16 : decode mX6_knownHere.2.1 16 = .ok (.getfield 22, 3) := by decide +kernel
theorem dX6_knownHere_19 : decode mX6_knownHere.2.1 19 = .ok (.iload_n 1, 1) := by decide +kernel
theorem dX6_knownHere_20 : decode mX6_knownHere.2.1 20 = .ok (.aload_n 0, 1) := by decide +kernel
theorem dX6_knownHere_21 : decode mX6_knownHere.2.1 21 = .ok (.getfield 84, 3) := by decide +kernel
theorem dX6_knownHere_24 : decode mX6_knownHere.2.1 24 = .ok (.invokevirtual 162, 3) := by decide +kernel
theorem dX6_knownHere_27 : decode mX6_knownHere.2.1 27 = .ok (.istore_n 2, 1) := by decide +kernel
theorem dX6_knownHere_28 : decode mX6_knownHere.2.1 28 = .ok (.iload_n 2, 1) := by decide +kernel
theorem dX6_knownHere_29 : decode mX6_knownHere.2.1 29 = .ok (.ldc 26, 2) := by decide +kernel
theorem dX6_knownHere_31 : decode mX6_knownHere.2.1 31 = .ok (.if_icmp .ne 8, 3) := by decide +kernel
theorem dX6_knownHere_34 : decode mX6_knownHere.2.1 34 = .ok (.aload_n 0, 1) := by decide +kernel
theorem dX6_knownHere_35 : decode mX6_knownHere.2.1 35 = .ok (.iconst 4, 1) := by decide +kernel
theorem dX6_knownHere_36 : decode mX6_knownHere.2.1 36 = .ok (.invokevirtual 87, 3) := by decide +kernel
theorem dX6_knownHere_39 : decode mX6_knownHere.2.1 39 = .ok (.iload_n 2, 1) := by decide +kernel
theorem dX6_knownHere_40 : decode mX6_knownHere.2.1 40 = .ok (.ireturn, 1) := by decide +kernel
theorem okX6_knownHere_162 : gOkV mX6_knownHere mX3_numberOf 162 2 := ⟨List.forall_mem_cons.mpr ⟨(gm 631 (by decide +kernel) rfl), List.forall_mem_cons.mpr ⟨(gm 628 (by decide +kernel) rfl), List.forall_mem_cons.mpr ⟨(gm 629 (by decide +kernel) rfl), List.forall_mem_cons.mpr ⟨(gm 630 (by decide +kernel) rfl), List.forall_mem_cons.mpr ⟨(gm 109 (by decide +kernel) rfl), fun _ h => absurd h List.not_mem_nil⟩⟩⟩⟩⟩, by decide +kernel, by decide +kernel, by decide +kernel⟩
theorem okX6_knownHere_87 : gOkV mX6_knownHere mX6_fail 87 1 := ⟨List.forall_mem_cons.mpr ⟨(gm 619 (by decide +kernel) rfl), List.forall_mem_cons.mpr ⟨(gm 616 (by decide +kernel) rfl), List.forall_mem_cons.mpr ⟨(gm 618 (by decide +kernel) rfl), List.forall_mem_cons.mpr ⟨(gm 7 (by decide +kernel) rfl), List.forall_mem_cons.mpr ⟨(gm 108 (by decide +kernel) rfl), fun _ h => absurd h List.not_mem_nil⟩⟩⟩⟩⟩, by decide +kernel, by decide +kernel, by decide +kernel⟩
theorem okX6_knownHere_91 : gOkV mX6_knownHere mX6_failUnfit 91 0 := ⟨List.forall_mem_cons.mpr ⟨(gm 615 (by decide +kernel) rfl), List.forall_mem_cons.mpr ⟨(gm 612 (by decide +kernel) rfl), List.forall_mem_cons.mpr ⟨(gm 614 (by decide +kernel) rfl), List.forall_mem_cons.mpr ⟨(gm 6 (by decide +kernel) rfl), List.forall_mem_cons.mpr ⟨(gm 108 (by decide +kernel) rfl), fun _ h => absurd h List.not_mem_nil⟩⟩⟩⟩⟩, by decide +kernel, by decide +kernel, by decide +kernel⟩
def fX6_knownHere_39 (p1 : Int32) (v2 : Int32) (σ : gS) : Option (Int32 × gS) :=
  some (v2, σ)
set_option maxHeartbeats 4000000 in
set_option maxRecDepth 100000 in
theorem pX6_knownHere_39 {E : gE} {p1 : Int32} {r : Int32} {σ' : gS} {v2 : Int32} {σ : gS} (h : fX6_knownHere_39 p1 v2 σ = some (r, σ')) : gG E mX6_knownHere 39 [(2, .int v2)] [] σ (some (.int r)) σ' := by
  unfold fX6_knownHere_39 at h
  refine g_iload_n dX6_knownHere_39 rfl 0 rfl ?_
  obtain ⟨rfl, rfl⟩ := so_inj h
  exact g_iret dX6_knownHere_40 rfl
def fX6_knownHere (p1 : Int32) (σ : gS) : Option (Int32 × gS) :=
  if (σ.1 1 5) = 3 then
    bnd (σ.2.2 1 3) fun x2 =>
    gg (x2 = 4 ∨ x2 = 16) (
    bd (fX3_numberOf x2 p1 (σ.1 1 7) σ) fun x4 σ5 =>
    if x4 = (-1000000) then
      bd (fX6_fail 4 σ5) fun _ σ8 =>
      fX6_knownHere_39 p1 x4 σ8
    else
      fX6_knownHere_39 p1 x4 σ5)
  else
    bd (fX6_failUnfit σ) fun _ σ10 =>
    some ((-1000000), σ10)
set_option maxHeartbeats 4000000 in
set_option maxRecDepth 100000 in
theorem pX6_knownHere {E : gE} {p1 : Int32} {r : Int32} {σ' : gS} {σ : gS} (h : fX6_knownHere p1 σ = some (r, σ')) : gG E mX6_knownHere 0 [(0, .ref 1), (1, .int p1)] [] σ (some (.int r)) σ' := by
  unfold fX6_knownHere at h
  refine g_aload_n dX6_knownHere_0 rfl 0 rfl ?_
  refine g_getI dX6_knownHere_1 gi_1 rfl fl_RX6_62 ?_
  refine g_iconst (v := 3) dX6_knownHere_4 (by decide) ?_
  refine g_icmp_eq (t := 15) dX6_knownHere_5 (by decide) (fun c1 => ?_) (fun c1 => ?_)
  · replace h := if_t h c1
    refine g_aload_n dX6_knownHere_15 rfl 0 rfl ?_
    refine g_getR dX6_knownHere_16 gi_1 rfl fl_RX6_22 ?_
    obtain ⟨x2, ex2, h⟩ := bnd_nm h
    refine g_topr ex2 ?_
    obtain ⟨g3, h⟩ := gg_some h
    refine g_iload_n dX6_knownHere_19 rfl 1 rfl ?_
    refine g_aload_n dX6_knownHere_20 rfl 0 rfl ?_
    refine g_getI dX6_knownHere_21 gi_1 rfl fl_RX6_84 ?_
    obtain ⟨x4, σ5, y6, h⟩ := bd_some h
    refine g_callVr (as := [.int p1, .int (σ.1 1 7)]) (st := []) (zX3_numberOf g3 y6) dX6_knownHere_24 (gi_lk g3) rfl okX6_knownHere_162 (Nat.le_of_ble_eq_true rfl) ?_
    refine g_istore_n (lv' := [(2, .int x4), (0, .ref 1), (1, .int p1)]) dX6_knownHere_27 rfl (Nat.le_of_ble_eq_true rfl) rfl ?_
    refine g_iload_n dX6_knownHere_28 rfl 0 rfl ?_
    refine g_ldc (v := (-1000000)) dX6_knownHere_29 wc_RX6_26 ?_
    refine g_icmp_ne (t := 39) dX6_knownHere_31 (by decide) (fun c7 => ?_) (fun c7 => ?_)
    · replace h := if_f h c7
      refine g_sub [0] rfl ?_
      exact pX6_knownHere_39 h
    · replace h := if_t h c7
      refine g_aload_n dX6_knownHere_34 rfl 1 rfl ?_
      refine g_iconst (v := 4) dX6_knownHere_35 (by decide) ?_
      obtain ⟨_, σ8, y9, h⟩ := bd_some h
      refine g_callVv (as := [.int 4]) (st := []) (zX6_fail y9) dX6_knownHere_36 gi_1 rfl okX6_knownHere_87 (Nat.le_of_ble_eq_true rfl) ?_
      refine g_sub [0] rfl ?_
      exact pX6_knownHere_39 h
  · replace h := if_f h c1
    refine g_aload_n dX6_knownHere_8 rfl 0 rfl ?_
    obtain ⟨_, σ10, y11, h⟩ := bd_some h
    refine g_callVv (as := []) (st := []) (zX6_failUnfit y11) dX6_knownHere_9 gi_1 rfl okX6_knownHere_91 (Nat.le_of_ble_eq_true rfl) ?_
    refine g_ldc (v := (-1000000)) dX6_knownHere_12 wc_RX6_26 ?_
    obtain ⟨rfl, rfl⟩ := so_inj h
    exact g_iret dX6_knownHere_14 rfl
theorem zX6_knownHere {E : gE} {p1 : Int32} {r : Int32} {σ σ' : gS} (h : fX6_knownHere p1 σ = some (r, σ')) : gC E mX6_knownHere [.ref 1, .int p1] σ (some (.int r)) σ' :=
  gC_of (by decide +kernel) rfl (Nat.le_of_ble_eq_true rfl) (pX6_knownHere h)
def mX6_knownName : gM := (yX6_knownName, cX6_knownName, RX6, 2, (some .int), 3, 64)
theorem dX6_knownName_0 : decode mX6_knownName.2.1 0 = .ok (.aload_n 0, 1) := by decide +kernel
theorem dX6_knownName_1 : decode mX6_knownName.2.1 1 = .ok (.getfield 56, 3) := by decide +kernel
theorem dX6_knownName_4 : decode mX6_knownName.2.1 4 = .ok (.ifCond .eq 6, 3) := by decide +kernel
theorem dX6_knownName_7 : decode mX6_knownName.2.1 7 = .ok (.ldc 26, 2) := by decide +kernel
theorem dX6_knownName_9 : decode mX6_knownName.2.1 9 = .ok (.ireturn, 1) := by decide +kernel
theorem dX6_knownName_10 : decode mX6_knownName.2.1 10 = .ok (.aload_n 0, 1) := by decide +kernel
theorem dX6_knownName_11 : decode mX6_knownName.2.1 11 = .ok (.invokevirtual 59, 3) := by decide +kernel
theorem dX6_knownName_14 : decode mX6_knownName.2.1 14 = .ok (.aload_n 0, 1) := by decide +kernel
theorem dX6_knownName_15 : decode mX6_knownName.2.1 15 = .ok (.iload_n 1, 1) := by decide +kernel
theorem dX6_knownName_16 : decode mX6_knownName.2.1 16 = .ok (.invokevirtual 134, 3) := by decide +kernel
theorem dX6_knownName_19 : decode mX6_knownName.2.1 19 = .ok (.ireturn, 1) := by decide +kernel
theorem okX6_knownName_59 : gOkV mX6_knownName mX6_next 59 0 := ⟨List.forall_mem_cons.mpr ⟨(gm 591 (by decide +kernel) rfl), List.forall_mem_cons.mpr ⟨(gm 588 (by decide +kernel) rfl), List.forall_mem_cons.mpr ⟨(gm 590 (by decide +kernel) rfl), List.forall_mem_cons.mpr ⟨(gm 0 (by decide +kernel) rfl), List.forall_mem_cons.mpr ⟨(gm 108 (by decide +kernel) rfl), fun _ h => absurd h List.not_mem_nil⟩⟩⟩⟩⟩, by decide +kernel, by decide +kernel, by decide +kernel⟩
theorem okX6_knownName_134 : gOkV mX6_knownName mX6_knownHere 134 1 := ⟨List.forall_mem_cons.mpr ⟨(gm 664 (by decide +kernel) rfl), List.forall_mem_cons.mpr ⟨(gm 661 (by decide +kernel) rfl), List.forall_mem_cons.mpr ⟨(gm 663 (by decide +kernel) rfl), List.forall_mem_cons.mpr ⟨(gm 14 (by decide +kernel) rfl), List.forall_mem_cons.mpr ⟨(gm 108 (by decide +kernel) rfl), fun _ h => absurd h List.not_mem_nil⟩⟩⟩⟩⟩, by decide +kernel, by decide +kernel, by decide +kernel⟩
def fX6_knownName (p1 : Int32) (σ : gS) : Option (Int32 × gS) :=
  if (σ.1 1 8) = 0 then
    bd (fX6_next σ) fun _ σ2 =>
    bd (fX6_knownHere p1 σ2) fun x4 σ5 =>
    some (x4, σ5)
  else
    some ((-1000000), σ)
set_option maxHeartbeats 4000000 in
set_option maxRecDepth 100000 in
theorem pX6_knownName {E : gE} {p1 : Int32} {r : Int32} {σ' : gS} {σ : gS} (h : fX6_knownName p1 σ = some (r, σ')) : gG E mX6_knownName 0 [(0, .ref 1), (1, .int p1)] [] σ (some (.int r)) σ' := by
  unfold fX6_knownName at h
  refine g_aload_n dX6_knownName_0 rfl 0 rfl ?_
  refine g_getI dX6_knownName_1 gi_1 rfl fl_RX6_56 ?_
  refine g_if_eq (t := 10) dX6_knownName_4 (by decide) (fun c1 => ?_) (fun c1 => ?_)
  · replace h := if_t h c1
    refine g_aload_n dX6_knownName_10 rfl 0 rfl ?_
    obtain ⟨_, σ2, y3, h⟩ := bd_some h
    refine g_callVv (as := []) (st := []) (zX6_next y3) dX6_knownName_11 gi_1 rfl okX6_knownName_59 (Nat.le_of_ble_eq_true rfl) ?_
    refine g_aload_n dX6_knownName_14 rfl 0 rfl ?_
    refine g_iload_n dX6_knownName_15 rfl 1 rfl ?_
    obtain ⟨x4, σ5, y6, h⟩ := bd_some h
    refine g_callVr (as := [.int p1]) (st := []) (zX6_knownHere y6) dX6_knownName_16 gi_1 rfl okX6_knownName_134 (Nat.le_of_ble_eq_true rfl) ?_
    obtain ⟨rfl, rfl⟩ := so_inj h
    exact g_iret dX6_knownName_19 rfl
  · replace h := if_f h c1
    refine g_ldc (v := (-1000000)) dX6_knownName_7 wc_RX6_26 ?_
    obtain ⟨rfl, rfl⟩ := so_inj h
    exact g_iret dX6_knownName_9 rfl
theorem zX6_knownName {E : gE} {p1 : Int32} {r : Int32} {σ σ' : gS} (h : fX6_knownName p1 σ = some (r, σ')) : gC E mX6_knownName [.ref 1, .int p1] σ (some (.int r)) σ' :=
  gC_of (by decide +kernel) rfl (Nat.le_of_ble_eq_true rfl) (pX6_knownName h)
def mX6_addBar : gM := (yX6_addBar, cX6_addBar, RX6, 3, none, 3, 69)
theorem dX6_addBar_0 : decode mX6_addBar.2.1 0 = .ok (.aload_n 0, 1) := by decide +kernel
theorem dX6_addBar_1 : decode mX6_addBar.2.1 1 = .ok (.getfield 56, 3) := by decide +kernel
theorem dX6_addBar_4 : decode mX6_addBar.2.1 4 = .ok (.ifCond .eq 4, 3) := by decide +kernel
theorem dX6_addBar_7 : decode mX6_addBar.2.1 7 = .ok (.return_, 1) := by decide +kernel
theorem dX6_addBar_8 : decode mX6_addBar.2.1 8 = .ok (.aload_n 0, 1) := by decide +kernel
theorem dX6_addBar_9 : decode mX6_addBar.2.1 9 = .ok (.getfield 22, 3) := by decide +kernel
theorem dX6_addBar_12 : decode mX6_addBar.2.1 12 = .ok (.iconst 1, 1) := by decide +kernel
theorem dX6_addBar_13 : decode mX6_addBar.2.1 13 = .ok (.invokevirtual 137, 3) := by decide +kernel
theorem dX6_addBar_16 : decode mX6_addBar.2.1 16 = .ok (.ifCond .eq 12, 3) := by decide +kernel
theorem dX6_addBar_19 : decode mX6_addBar.2.1 19 = .ok (.aload_n 0, 1) := by decide +kernel
theorem dX6_addBar_20 : decode mX6_addBar.2.1 20 = .ok (.bipush 6, 2) := by decide +kernel
theorem dX6_addBar_22 : decode mX6_addBar.2.1 22 = .ok (.invokevirtual 87, 3) := by decide +kernel
theorem dX6_addBar_25 : decode mX6_addBar.2.1 25 = .ok (.goto 47, 3) := by decide +kernel
theorem dX6_addBar_28 : decode mX6_addBar.2.1 28 = .ok (.aload_n 0, 1) := by decide +kernel
theorem dX6_addBar_29 : decode mX6_addBar.2.1 29 = .ok (.getfield 22, 3) := by decide +kernel
theorem dX6_addBar_32 : decode mX6_addBar.2.1 32 = .ok (.iload_n 1, 1) := by decide +kernel
theorem dX6_addBar_33 : decode mX6_addBar.2.1 33 = .ok (.iload_n 2, 1) := by decide +kernel
theorem dX6_addBar_34 : decode mX6_addBar.2.1 34 = .ok (.invokevirtual 140, 3) := by decide +kernel
theorem dX6_addBar_37 : decode mX6_addBar.2.1 37 = .ok (.ifCond .eq 15, 3) := by decide +kernel
theorem dX6_addBar_40 : decode mX6_addBar.2.1 40 = .ok (.aload_n 0, 1) := by decide +kernel
theorem dX6_addBar_41 : decode mX6_addBar.2.1 41 = .ok (.getfield 22, 3) := by decide +kernel
theorem dX6_addBar_44 : decode mX6_addBar.2.1 44 = .ok (.iload_n 1, 1) := by decide +kernel
theorem dX6_addBar_45 : decode mX6_addBar.2.1 45 = .ok (.iload_n 2, 1) := by decide +kernel
theorem dX6_addBar_46 : decode mX6_addBar.2.1 46 = .ok (.invokevirtual 143, 3) := by decide +kernel
theorem dX6_addBar_49 : decode mX6_addBar.2.1 49 = .ok (.ifCond .eq 12, 3) := by decide +kernel
theorem dX6_addBar_52 : decode mX6_addBar.2.1 52 = .ok (.aload_n 0, 1) := by decide +kernel
theorem dX6_addBar_53 : decode mX6_addBar.2.1 53 = .ok (.bipush 7, 2) := by decide +kernel
theorem dX6_addBar_55 : decode mX6_addBar.2.1 55 = .ok (.invokevirtual 87, 3) := by decide +kernel
theorem dX6_addBar_58 : decode mX6_addBar.2.1 58 = .ok (.goto 14, 3) := by decide +kernel
theorem dX6_addBar_61 : decode mX6_addBar.2.1 61 = .ok (.aload_n 0, 1) := by decide +kernel
theorem dX6_addBar_62 : decode mX6_addBar.2.1 62 = .ok (.getfield 22, 3) := by decide +kernel
theorem dX6_addBar_65 : decode mX6_addBar.2.1 65 = .ok (.iconst 2, 1) := by decide +kernel
theorem dX6_addBar_66 : decode mX6_addBar.2.1 66 = .ok (.iconst 0, 1) := by decide +kernel
theorem dX6_addBar_67 : decode mX6_addBar.2.1 67 = .ok (.iload_n 1, 1) := by decide +kernel
theorem dX6_addBar_68 : decode mX6_addBar.2.1 68 = .ok (.iload_n 2, 1) := by decide +kernel
theorem dX6_addBar_69 : decode mX6_addBar.2.1 69 = .ok (.invokevirtual 123, 3) := by decide +kernel
theorem dX6_addBar_72 : decode mX6_addBar.2.1 72 = .ok (.return_, 1) := by decide +kernel
theorem okX6_addBar_87 : gOkV mX6_addBar mX6_fail 87 1 := ⟨List.forall_mem_cons.mpr ⟨(gm 619 (by decide +kernel) rfl), List.forall_mem_cons.mpr ⟨(gm 616 (by decide +kernel) rfl), List.forall_mem_cons.mpr ⟨(gm 618 (by decide +kernel) rfl), List.forall_mem_cons.mpr ⟨(gm 7 (by decide +kernel) rfl), List.forall_mem_cons.mpr ⟨(gm 108 (by decide +kernel) rfl), fun _ h => absurd h List.not_mem_nil⟩⟩⟩⟩⟩, by decide +kernel, by decide +kernel, by decide +kernel⟩
theorem okX6_addBar_137 : gOkV mX6_addBar mX3_isFull 137 1 := ⟨List.forall_mem_cons.mpr ⟨(gm 635 (by decide +kernel) rfl), List.forall_mem_cons.mpr ⟨(gm 632 (by decide +kernel) rfl), List.forall_mem_cons.mpr ⟨(gm 633 (by decide +kernel) rfl), List.forall_mem_cons.mpr ⟨(gm 634 (by decide +kernel) rfl), List.forall_mem_cons.mpr ⟨(gm 109 (by decide +kernel) rfl), fun _ h => absurd h List.not_mem_nil⟩⟩⟩⟩⟩, by decide +kernel, by decide +kernel, by decide +kernel⟩
theorem okX6_addBar_140 : gOkV mX6_addBar mX3_squareApart 140 2 := ⟨List.forall_mem_cons.mpr ⟨(gm 672 (by decide +kernel) rfl), List.forall_mem_cons.mpr ⟨(gm 669 (by decide +kernel) rfl), List.forall_mem_cons.mpr ⟨(gm 670 (by decide +kernel) rfl), List.forall_mem_cons.mpr ⟨(gm 671 (by decide +kernel) rfl), List.forall_mem_cons.mpr ⟨(gm 109 (by decide +kernel) rfl), fun _ h => absurd h List.not_mem_nil⟩⟩⟩⟩⟩, by decide +kernel, by decide +kernel, by decide +kernel⟩
theorem okX6_addBar_143 : gOkV mX6_addBar mX3_hasBar 143 2 := ⟨List.forall_mem_cons.mpr ⟨(gm 692 (by decide +kernel) rfl), List.forall_mem_cons.mpr ⟨(gm 689 (by decide +kernel) rfl), List.forall_mem_cons.mpr ⟨(gm 690 (by decide +kernel) rfl), List.forall_mem_cons.mpr ⟨(gm 691 (by decide +kernel) rfl), List.forall_mem_cons.mpr ⟨(gm 109 (by decide +kernel) rfl), fun _ h => absurd h List.not_mem_nil⟩⟩⟩⟩⟩, by decide +kernel, by decide +kernel, by decide +kernel⟩
theorem okX6_addBar_123 : gOkV mX6_addBar mX3_add 123 4 := ⟨List.forall_mem_cons.mpr ⟨(gm 649 (by decide +kernel) rfl), List.forall_mem_cons.mpr ⟨(gm 646 (by decide +kernel) rfl), List.forall_mem_cons.mpr ⟨(gm 647 (by decide +kernel) rfl), List.forall_mem_cons.mpr ⟨(gm 648 (by decide +kernel) rfl), List.forall_mem_cons.mpr ⟨(gm 109 (by decide +kernel) rfl), fun _ h => absurd h List.not_mem_nil⟩⟩⟩⟩⟩, by decide +kernel, by decide +kernel, by decide +kernel⟩
def fX6_addBar_72 (p1 : Int32) (p2 : Int32) (σ : gS) : Option (Unit × gS) :=
  some ((), σ)
set_option maxHeartbeats 4000000 in
set_option maxRecDepth 100000 in
theorem pX6_addBar_72 {E : gE} {p1 : Int32} {p2 : Int32} {r : Unit} {σ' : gS} {σ : gS} (h : fX6_addBar_72 p1 p2 σ = some (r, σ')) : gG E mX6_addBar 72 [] [] σ (none) σ' := by
  unfold fX6_addBar_72 at h
  obtain ⟨rfl, rfl⟩ := so_inj h
  exact g_vret dX6_addBar_72 rfl
def fX6_addBar_52 (p1 : Int32) (p2 : Int32) (σ : gS) : Option (Unit × gS) :=
  bd (fX6_fail 7 σ) fun _ σ1 =>
  fX6_addBar_72 p1 p2 σ1
set_option maxHeartbeats 4000000 in
set_option maxRecDepth 100000 in
theorem pX6_addBar_52 {E : gE} {p1 : Int32} {p2 : Int32} {r : Unit} {σ' : gS} {σ : gS} (h : fX6_addBar_52 p1 p2 σ = some (r, σ')) : gG E mX6_addBar 52 [(0, .ref 1)] [] σ (none) σ' := by
  unfold fX6_addBar_52 at h
  refine g_aload_n dX6_addBar_52 rfl 0 rfl ?_
  refine g_bipush (v := 7) dX6_addBar_53 (by decide) ?_
  obtain ⟨_, σ1, y2, h⟩ := bd_some h
  refine g_callVv (as := [.int 7]) (st := []) (zX6_fail y2) dX6_addBar_55 gi_1 rfl okX6_addBar_87 (Nat.le_of_ble_eq_true rfl) ?_
  refine g_goto (t := 72) dX6_addBar_58 (by decide) ?_
  refine g_sub [] rfl ?_
  exact pX6_addBar_72 h
def fX6_addBar (p1 : Int32) (p2 : Int32) (σ : gS) : Option (Unit × gS) :=
  if (σ.1 1 8) = 0 then
    bnd (σ.2.2 1 3) fun x2 =>
    gg (x2 = 4 ∨ x2 = 16) (
    bd (fX3_isFull x2 1 σ) fun x4 σ5 =>
    if x4 = 0 then
      bnd (σ5.2.2 1 3) fun x8 =>
      gg (x8 = 4 ∨ x8 = 16) (
      bd (fX3_squareApart x8 p1 p2 σ5) fun x10 σ11 =>
      if x10 = 0 then
        fX6_addBar_52 p1 p2 σ11
      else
        bnd (σ11.2.2 1 3) fun x14 =>
        gg (x14 = 4 ∨ x14 = 16) (
        bd (fX3_hasBar x14 p1 p2 σ11) fun x16 σ17 =>
        if x16 = 0 then
          bnd (σ17.2.2 1 3) fun x20 =>
          gg (x20 = 4 ∨ x20 = 16) (
          bd (fX3_add x20 2 0 p1 p2 σ17) fun _ σ22 =>
          fX6_addBar_72 p1 p2 σ22)
        else
          fX6_addBar_52 p1 p2 σ17))
    else
      bd (fX6_fail 6 σ5) fun _ σ24 =>
      fX6_addBar_72 p1 p2 σ24)
  else
    some ((), σ)
set_option maxHeartbeats 4000000 in
set_option maxRecDepth 100000 in
theorem pX6_addBar {E : gE} {p1 : Int32} {p2 : Int32} {r : Unit} {σ' : gS} {σ : gS} (h : fX6_addBar p1 p2 σ = some (r, σ')) : gG E mX6_addBar 0 [(0, .ref 1), (1, .int p1), (2, .int p2)] [] σ (none) σ' := by
  unfold fX6_addBar at h
  refine g_aload_n dX6_addBar_0 rfl 0 rfl ?_
  refine g_getI dX6_addBar_1 gi_1 rfl fl_RX6_56 ?_
  refine g_if_eq (t := 8) dX6_addBar_4 (by decide) (fun c1 => ?_) (fun c1 => ?_)
  · replace h := if_t h c1
    refine g_aload_n dX6_addBar_8 rfl 0 rfl ?_
    refine g_getR dX6_addBar_9 gi_1 rfl fl_RX6_22 ?_
    obtain ⟨x2, ex2, h⟩ := bnd_nm h
    refine g_topr ex2 ?_
    obtain ⟨g3, h⟩ := gg_some h
    refine g_iconst (v := 1) dX6_addBar_12 (by decide) ?_
    obtain ⟨x4, σ5, y6, h⟩ := bd_some h
    refine g_callVr (as := [.int 1]) (st := []) (zX3_isFull g3 y6) dX6_addBar_13 (gi_lk g3) rfl okX6_addBar_137 (Nat.le_of_ble_eq_true rfl) ?_
    refine g_if_eq (t := 28) dX6_addBar_16 (by decide) (fun c7 => ?_) (fun c7 => ?_)
    · replace h := if_t h c7
      refine g_aload_n dX6_addBar_28 rfl 0 rfl ?_
      refine g_getR dX6_addBar_29 gi_1 rfl fl_RX6_22 ?_
      obtain ⟨x8, ex8, h⟩ := bnd_nm h
      refine g_topr ex8 ?_
      obtain ⟨g9, h⟩ := gg_some h
      refine g_iload_n dX6_addBar_32 rfl 1 rfl ?_
      refine g_iload_n dX6_addBar_33 rfl 2 rfl ?_
      obtain ⟨x10, σ11, y12, h⟩ := bd_some h
      refine g_callVr (as := [.int p1, .int p2]) (st := []) (zX3_squareApart g9 y12) dX6_addBar_34 (gi_lk g9) rfl okX6_addBar_140 (Nat.le_of_ble_eq_true rfl) ?_
      refine g_if_eq (t := 52) dX6_addBar_37 (by decide) (fun c13 => ?_) (fun c13 => ?_)
      · replace h := if_t h c13
        refine g_sub [0] rfl ?_
        exact pX6_addBar_52 h
      · replace h := if_f h c13
        refine g_aload_n dX6_addBar_40 rfl 0 rfl ?_
        refine g_getR dX6_addBar_41 gi_1 rfl fl_RX6_22 ?_
        obtain ⟨x14, ex14, h⟩ := bnd_nm h
        refine g_topr ex14 ?_
        obtain ⟨g15, h⟩ := gg_some h
        refine g_iload_n dX6_addBar_44 rfl 1 rfl ?_
        refine g_iload_n dX6_addBar_45 rfl 2 rfl ?_
        obtain ⟨x16, σ17, y18, h⟩ := bd_some h
        refine g_callVr (as := [.int p1, .int p2]) (st := []) (zX3_hasBar g15 y18) dX6_addBar_46 (gi_lk g15) rfl okX6_addBar_143 (Nat.le_of_ble_eq_true rfl) ?_
        refine g_if_eq (t := 61) dX6_addBar_49 (by decide) (fun c19 => ?_) (fun c19 => ?_)
        · replace h := if_t h c19
          refine g_aload_n dX6_addBar_61 rfl 0 rfl ?_
          refine g_getR dX6_addBar_62 gi_1 rfl fl_RX6_22 ?_
          obtain ⟨x20, ex20, h⟩ := bnd_nm h
          refine g_topr ex20 ?_
          obtain ⟨g21, h⟩ := gg_some h
          refine g_iconst (v := 2) dX6_addBar_65 (by decide) ?_
          refine g_iconst (v := 0) dX6_addBar_66 (by decide) ?_
          refine g_iload_n dX6_addBar_67 rfl 1 rfl ?_
          refine g_iload_n dX6_addBar_68 rfl 2 rfl ?_
          obtain ⟨_, σ22, y23, h⟩ := bd_some h
          refine g_callVv (as := [.int 2, .int 0, .int p1, .int p2]) (st := []) (zX3_add g21 y23) dX6_addBar_69 (gi_lk g21) rfl okX6_addBar_123 (Nat.le_of_ble_eq_true rfl) ?_
          refine g_sub [] rfl ?_
          exact pX6_addBar_72 h
        · replace h := if_f h c19
          refine g_sub [0] rfl ?_
          exact pX6_addBar_52 h
    · replace h := if_f h c7
      refine g_aload_n dX6_addBar_19 rfl 0 rfl ?_
      refine g_bipush (v := 6) dX6_addBar_20 (by decide) ?_
      obtain ⟨_, σ24, y25, h⟩ := bd_some h
      refine g_callVv (as := [.int 6]) (st := []) (zX6_fail y25) dX6_addBar_22 gi_1 rfl okX6_addBar_87 (Nat.le_of_ble_eq_true rfl) ?_
      refine g_goto (t := 72) dX6_addBar_25 (by decide) ?_
      refine g_sub [] rfl ?_
      exact pX6_addBar_72 h
  · replace h := if_f h c1
    obtain ⟨rfl, rfl⟩ := so_inj h
    exact g_vret dX6_addBar_7 rfl
theorem zX6_addBar {E : gE} {p1 : Int32} {p2 : Int32} {r : Unit} {σ σ' : gS} (h : fX6_addBar p1 p2 σ = some (r, σ')) : gC E mX6_addBar [.ref 1, .int p1, .int p2] σ (none) σ' :=
  gC_of (by decide +kernel) rfl (Nat.le_of_ble_eq_true rfl) (pX6_addBar h)
def mX6_oneBar : gM := (yX6_oneBar, cX6_oneBar, RX6, 3, none, 4, 91)
theorem dX6_oneBar_0 : decode mX6_oneBar.2.1 0 = .ok (.aload_n 0, 1) := by decide +kernel
theorem dX6_oneBar_1 : decode mX6_oneBar.2.1 1 = .ok (.iconst 0, 1) := by decide +kernel
theorem dX6_oneBar_2 : decode mX6_oneBar.2.1 2 = .ok (.invokevirtual 127, 3) := by decide +kernel
theorem dX6_oneBar_5 : decode mX6_oneBar.2.1 5 = .ok (.istore_n 1, 1) := by decide +kernel
theorem dX6_oneBar_6 : decode mX6_oneBar.2.1 6 = .ok (.aload_n 0, 1) := by decide +kernel
theorem dX6_oneBar_7 : decode mX6_oneBar.2.1 7 = .ok (.iconst 0, 1) := by decide +kernel
theorem dX6_oneBar_8 : decode mX6_oneBar.2.1 8 = .ok (.invokevirtual 127, 3) := by decide +kernel
theorem dX6_oneBar_11 : decode mX6_oneBar.2.1 11 = .ok (.istore_n 2, 1) := by decide +kernel
theorem dX6_oneBar_12 : decode mX6_oneBar.2.1 12 = .ok (.aload_n 0, 1) := by decide +kernel
theorem dX6_oneBar_13 : decode mX6_oneBar.2.1 13 = .ok (.iload_n 1, 1) := by decide +kernel
theorem dX6_oneBar_14 : decode mX6_oneBar.2.1 14 = .ok (.iload_n 2, 1) := by decide +kernel
theorem dX6_oneBar_15 : decode mX6_oneBar.2.1 15 = .ok (.invokevirtual 130, 3) := by decide +kernel
theorem dX6_oneBar_18 : decode mX6_oneBar.2.1 18 = .ok (.aload_n 0, 1) := by decide +kernel
theorem dX6_oneBar_19 : decode mX6_oneBar.2.1 19 = .ok (.invokevirtual 120, 3) := by decide +kernel
theorem dX6_oneBar_22 : decode mX6_oneBar.2.1 22 = .ok (.return_, 1) := by decide +kernel
theorem okX6_oneBar_127 : gOkV mX6_oneBar mX6_knownName 127 1 := ⟨List.forall_mem_cons.mpr ⟨(gm 660 (by decide +kernel) rfl), List.forall_mem_cons.mpr ⟨(gm 657 (by decide +kernel) rfl), List.forall_mem_cons.mpr ⟨(gm 659 (by decide +kernel) rfl), List.forall_mem_cons.mpr ⟨(gm 13 (by decide +kernel) rfl), List.forall_mem_cons.mpr ⟨(gm 108 (by decide +kernel) rfl), fun _ h => absurd h List.not_mem_nil⟩⟩⟩⟩⟩, by decide +kernel, by decide +kernel, by decide +kernel⟩
theorem okX6_oneBar_130 : gOkV mX6_oneBar mX6_addBar 130 2 := ⟨List.forall_mem_cons.mpr ⟨(gm 668 (by decide +kernel) rfl), List.forall_mem_cons.mpr ⟨(gm 665 (by decide +kernel) rfl), List.forall_mem_cons.mpr ⟨(gm 667 (by decide +kernel) rfl), List.forall_mem_cons.mpr ⟨(gm 15 (by decide +kernel) rfl), List.forall_mem_cons.mpr ⟨(gm 108 (by decide +kernel) rfl), fun _ h => absurd h List.not_mem_nil⟩⟩⟩⟩⟩, by decide +kernel, by decide +kernel, by decide +kernel⟩
theorem okX6_oneBar_120 : gOkV mX6_oneBar mX6_expectSign 120 0 := ⟨List.forall_mem_cons.mpr ⟨(gm 645 (by decide +kernel) rfl), List.forall_mem_cons.mpr ⟨(gm 642 (by decide +kernel) rfl), List.forall_mem_cons.mpr ⟨(gm 644 (by decide +kernel) rfl), List.forall_mem_cons.mpr ⟨(gm 11 (by decide +kernel) rfl), List.forall_mem_cons.mpr ⟨(gm 108 (by decide +kernel) rfl), fun _ h => absurd h List.not_mem_nil⟩⟩⟩⟩⟩, by decide +kernel, by decide +kernel, by decide +kernel⟩
def fX6_oneBar (σ : gS) : Option (Unit × gS) :=
  bd (fX6_knownName 0 σ) fun x1 σ2 =>
  bd (fX6_knownName 0 σ2) fun x4 σ5 =>
  bd (fX6_addBar x1 x4 σ5) fun _ σ7 =>
  bd (fX6_expectSign σ7) fun _ σ9 =>
  some ((), σ9)
set_option maxHeartbeats 4000000 in
set_option maxRecDepth 100000 in
theorem pX6_oneBar {E : gE} {r : Unit} {σ' : gS} {σ : gS} (h : fX6_oneBar σ = some (r, σ')) : gG E mX6_oneBar 0 [(0, .ref 1)] [] σ (none) σ' := by
  unfold fX6_oneBar at h
  refine g_aload_n dX6_oneBar_0 rfl 0 rfl ?_
  refine g_iconst (v := 0) dX6_oneBar_1 (by decide) ?_
  obtain ⟨x1, σ2, y3, h⟩ := bd_some h
  refine g_callVr (as := [.int 0]) (st := []) (zX6_knownName y3) dX6_oneBar_2 gi_1 rfl okX6_oneBar_127 (Nat.le_of_ble_eq_true rfl) ?_
  refine g_istore_n (lv' := [(1, .int x1), (0, .ref 1)]) dX6_oneBar_5 rfl (Nat.le_of_ble_eq_true rfl) rfl ?_
  refine g_aload_n dX6_oneBar_6 rfl 1 rfl ?_
  refine g_iconst (v := 0) dX6_oneBar_7 (by decide) ?_
  obtain ⟨x4, σ5, y6, h⟩ := bd_some h
  refine g_callVr (as := [.int 0]) (st := []) (zX6_knownName y6) dX6_oneBar_8 gi_1 rfl okX6_oneBar_127 (Nat.le_of_ble_eq_true rfl) ?_
  refine g_istore_n (lv' := [(2, .int x4), (1, .int x1), (0, .ref 1)]) dX6_oneBar_11 rfl (Nat.le_of_ble_eq_true rfl) rfl ?_
  refine g_aload_n dX6_oneBar_12 rfl 2 rfl ?_
  refine g_iload_n dX6_oneBar_13 rfl 1 rfl ?_
  refine g_iload_n dX6_oneBar_14 rfl 0 rfl ?_
  obtain ⟨_, σ7, y8, h⟩ := bd_some h
  refine g_callVv (as := [.int x1, .int x4]) (st := []) (zX6_addBar y8) dX6_oneBar_15 gi_1 rfl okX6_oneBar_130 (Nat.le_of_ble_eq_true rfl) ?_
  refine g_aload_n dX6_oneBar_18 rfl 2 rfl ?_
  obtain ⟨_, σ9, y10, h⟩ := bd_some h
  refine g_callVv (as := []) (st := []) (zX6_expectSign y10) dX6_oneBar_19 gi_1 rfl okX6_oneBar_120 (Nat.le_of_ble_eq_true rfl) ?_
  obtain ⟨rfl, rfl⟩ := so_inj h
  exact g_vret dX6_oneBar_22 rfl
theorem zX6_oneBar {E : gE} {r : Unit} {σ σ' : gS} (h : fX6_oneBar σ = some (r, σ')) : gC E mX6_oneBar [.ref 1] σ (none) σ' :=
  gC_of (by decide +kernel) rfl (Nat.le_of_ble_eq_true rfl) (pX6_oneBar h)
def mX6_manyBars : gM := (yX6_manyBars, cX6_manyBars, RX6, 7, none, 4, 91)
theorem dX6_manyBars_0 : decode mX6_manyBars.2.1 0 = .ok (.aload_n 0, 1) := by decide +kernel
theorem dX6_manyBars_1 : decode mX6_manyBars.2.1 1 = .ok (.iconst 0, 1) := by decide +kernel
theorem dX6_manyBars_2 : decode mX6_manyBars.2.1 2 = .ok (.invokevirtual 127, 3) := by decide +kernel
theorem dX6_manyBars_5 : decode mX6_manyBars.2.1 5 = .ok (.istore_n 3, 1) := by decide +kernel
theorem dX6_manyBars_6 : decode mX6_manyBars.2.1 6 = .ok (.iload_n 3, 1) := by decide +kernel
theorem dX6_manyBars_7 : decode mX6_manyBars.2.1 7 = .ok (.istore 4, 2) := by decide +kernel
theorem dX6_manyBars_9 : decode mX6_manyBars.2.1 9 = .ok (.iconst 1, 1) := by decide +kernel
theorem dX6_manyBars_10 : decode mX6_manyBars.2.1 10 = .ok (.istore 5, 2) := by decide +kernel
theorem dX6_manyBars_12 : decode mX6_manyBars.2.1 12 = .ok (.iload 5, 2) := by decide +kernel
theorem dX6_manyBars_14 : decode mX6_manyBars.2.1 14 = .ok (.sipush 1200, 3) := by decide +kernel
theorem dX6_manyBars_17 : decode mX6_manyBars.2.1 17 = .ok (.if_icmp .gt 65, 3) := by decide +kernel
theorem dX6_manyBars_20 : decode mX6_manyBars.2.1 20 = .ok (.aload_n 0, 1) := by decide +kernel
theorem dX6_manyBars_21 : decode mX6_manyBars.2.1 21 = .ok (.getfield 56, 3) := by decide +kernel
theorem dX6_manyBars_24 : decode mX6_manyBars.2.1 24 = .ok (.ifCond .ne 58, 3) := by decide +kernel
theorem dX6_manyBars_27 : decode mX6_manyBars.2.1 27 = .ok (.aload_n 0, 1) := by decide +kernel
theorem dX6_manyBars_28 : decode mX6_manyBars.2.1 28 = .ok (.invokevirtual 59, 3) := by decide +kernel
theorem dX6_manyBars_31 : decode mX6_manyBars.2.1 31 = .ok (.aload_n 0, 1) := by decide +kernel
theorem dX6_manyBars_32 : decode mX6_manyBars.2.1 32 = .ok (.getfield 62, 3) := by decide +kernel
theorem dX6_manyBars_35 : decode mX6_manyBars.2.1 35 = .ok (.iconst 5, 1) := by decide +kernel
theorem dX6_manyBars_36 : decode mX6_manyBars.2.1 36 = .ok (.if_icmp .ne 21, 3) := by decide +kernel
theorem dX6_manyBars_39 : decode mX6_manyBars.2.1 39 = .ok (.iload 5, 2) := by decide +kernel
theorem dX6_manyBars_41 : decode mX6_manyBars.2.1 41 = .ok (.iload_n 1, 1) := by decide +kernel
theorem dX6_manyBars_42 : decode mX6_manyBars.2.1 42 = .ok (.if_icmp .lt 15, 3) := by decide +kernel
theorem dX6_manyBars_45 : decode mX6_manyBars.2.1 45 = .ok (.iload_n 2, 1) := by decide +kernel
theorem dX6_manyBars_46 : decode mX6_manyBars.2.1 46 = .ok (.ifCond .eq 10, 3) := by decide +kernel
theorem dX6_manyBars_49 : decode mX6_manyBars.2.1 49 = .ok (.aload_n 0, 1) := by decide +kernel
theorem dX6_manyBars_50 : decode mX6_manyBars.2.1 50 = .ok (.iload 4, 2) := by decide +kernel
theorem dX6_manyBars_52 : decode mX6_manyBars.2.1 52 = .ok (.iload_n 3, 1) := by decide +kernel
theorem dX6_manyBars_53 : decode mX6_manyBars.2.1 53 = .ok (.invokevirtual 130, 3) := by decide +kernel
theorem dX6_manyBars_56 : decode mX6_manyBars.2.1 56 = .ok (.return_, 1) := by decide +kernel
theorem dX6_manyBars_57 : decode mX6_manyBars.2.1 57 = .ok (.aload_n 0, 1) := by decide +kernel
theorem dX6_manyBars_58 : decode mX6_manyBars.2.1 58 = .ok (.iconst 0, 1) := by decide +kernel
theorem dX6_manyBars_59 : decode mX6_manyBars.2.1 59 = .ok (.invokevirtual 134, 3) := by decide +kernel
theorem dX6_manyBars_62 : decode mX6_manyBars.2.1 62 = .ok (.istore 6, 2) := by decide +kernel
theorem dX6_manyBars_64 : decode mX6_manyBars.2.1 64 = .ok (.aload_n 0, 1) := by decide +kernel
theorem dX6_manyBars_65 : decode mX6_manyBars.2.1 65 = .ok (.iload 4, 2) := by decide +kernel
theorem dX6_manyBars_67 : decode mX6_manyBars.2.1 67 = .ok (.iload 6, 2) := by decide +kernel
theorem dX6_manyBars_69 : decode mX6_manyBars.2.1 69 = .ok (.invokevirtual 130, 3) := by decide +kernel
theorem dX6_manyBars_72 : decode mX6_manyBars.2.1 72 = .ok (.iload 6, 2) := by decide +kernel
theorem dX6_manyBars_74 : decode mX6_manyBars.2.1 74 = .ok (.istore 4, 2) := by decide +kernel
theorem dX6_manyBars_76 : decode mX6_manyBars.2.1 76 = .ok (.iinc 5 1, 3) := by decide +kernel
theorem dX6_manyBars_79 : decode mX6_manyBars.2.1 79 = .ok (.goto (-67), 3) := by decide +kernel
theorem dX6_manyBars_82 : decode mX6_manyBars.2.1 82 = .ok (.return_, 1) := by decide +kernel
theorem okX6_manyBars_134 : gOkV mX6_manyBars mX6_knownHere 134 1 := ⟨List.forall_mem_cons.mpr ⟨(gm 664 (by decide +kernel) rfl), List.forall_mem_cons.mpr ⟨(gm 661 (by decide +kernel) rfl), List.forall_mem_cons.mpr ⟨(gm 663 (by decide +kernel) rfl), List.forall_mem_cons.mpr ⟨(gm 14 (by decide +kernel) rfl), List.forall_mem_cons.mpr ⟨(gm 108 (by decide +kernel) rfl), fun _ h => absurd h List.not_mem_nil⟩⟩⟩⟩⟩, by decide +kernel, by decide +kernel, by decide +kernel⟩
theorem okX6_manyBars_130 : gOkV mX6_manyBars mX6_addBar 130 2 := ⟨List.forall_mem_cons.mpr ⟨(gm 668 (by decide +kernel) rfl), List.forall_mem_cons.mpr ⟨(gm 665 (by decide +kernel) rfl), List.forall_mem_cons.mpr ⟨(gm 667 (by decide +kernel) rfl), List.forall_mem_cons.mpr ⟨(gm 15 (by decide +kernel) rfl), List.forall_mem_cons.mpr ⟨(gm 108 (by decide +kernel) rfl), fun _ h => absurd h List.not_mem_nil⟩⟩⟩⟩⟩, by decide +kernel, by decide +kernel, by decide +kernel⟩
theorem okX6_manyBars_59 : gOkV mX6_manyBars mX6_next 59 0 := ⟨List.forall_mem_cons.mpr ⟨(gm 591 (by decide +kernel) rfl), List.forall_mem_cons.mpr ⟨(gm 588 (by decide +kernel) rfl), List.forall_mem_cons.mpr ⟨(gm 590 (by decide +kernel) rfl), List.forall_mem_cons.mpr ⟨(gm 0 (by decide +kernel) rfl), List.forall_mem_cons.mpr ⟨(gm 108 (by decide +kernel) rfl), fun _ h => absurd h List.not_mem_nil⟩⟩⟩⟩⟩, by decide +kernel, by decide +kernel, by decide +kernel⟩
theorem okX6_manyBars_127 : gOkV mX6_manyBars mX6_knownName 127 1 := ⟨List.forall_mem_cons.mpr ⟨(gm 660 (by decide +kernel) rfl), List.forall_mem_cons.mpr ⟨(gm 657 (by decide +kernel) rfl), List.forall_mem_cons.mpr ⟨(gm 659 (by decide +kernel) rfl), List.forall_mem_cons.mpr ⟨(gm 13 (by decide +kernel) rfl), List.forall_mem_cons.mpr ⟨(gm 108 (by decide +kernel) rfl), fun _ h => absurd h List.not_mem_nil⟩⟩⟩⟩⟩, by decide +kernel, by decide +kernel, by decide +kernel⟩
def fX6_manyBars_56 (p1 : Int32) (p2 : Int32) (σ : gS) : Option (Unit × gS) :=
  some ((), σ)
set_option maxHeartbeats 4000000 in
set_option maxRecDepth 100000 in
theorem pX6_manyBars_56 {E : gE} {p1 : Int32} {p2 : Int32} {r : Unit} {σ' : gS} {σ : gS} (h : fX6_manyBars_56 p1 p2 σ = some (r, σ')) : gG E mX6_manyBars 56 [] [] σ (none) σ' := by
  unfold fX6_manyBars_56 at h
  obtain ⟨rfl, rfl⟩ := so_inj h
  exact g_vret dX6_manyBars_56 rfl
def fX6_manyBars_57 (p1 : Int32) (p2 : Int32) (k12 : Int32 → Int32 → Int32 → gS → Option (Unit × gS)) (v3 : Int32) (v4 : Int32) (v5 : Int32) (σ : gS) : Option (Unit × gS) :=
  bd (fX6_knownHere 0 σ) fun x1 σ2 =>
  bd (fX6_addBar v4 x1 σ2) fun _ σ4 =>
  bnd (v5 + 1) fun x6 =>
  k12 v3 x1 x6 σ4
set_option maxHeartbeats 4000000 in
set_option maxRecDepth 100000 in
theorem pX6_manyBars_57 {E : gE} {p1 : Int32} {p2 : Int32} {k12 : Int32 → Int32 → Int32 → gS → Option (Unit × gS)} {r : Unit} {σ' : gS} {v3 : Int32} {v4 : Int32} {v5 : Int32} {σ : gS} (hk12 : ∀ (v3 : Int32) (v4 : Int32) (v5 : Int32) (σ : gS), k12 v3 v4 v5 σ = some (r, σ') → gG E mX6_manyBars 12 [(0, .ref 1), (1, .int p1), (2, .int p2), (3, .int v3), (4, .int v4), (5, .int v5)] [] σ (none) σ') (h : fX6_manyBars_57 p1 p2 k12 v3 v4 v5 σ = some (r, σ')) : gG E mX6_manyBars 57 [(0, .ref 1), (1, .int p1), (2, .int p2), (3, .int v3), (4, .int v4), (5, .int v5)] [] σ (none) σ' := by
  unfold fX6_manyBars_57 at h
  refine g_aload_n dX6_manyBars_57 rfl 0 rfl ?_
  refine g_iconst (v := 0) dX6_manyBars_58 (by decide) ?_
  obtain ⟨x1, σ2, y3, h⟩ := bd_some h
  refine g_callVr (as := [.int 0]) (st := []) (zX6_knownHere y3) dX6_manyBars_59 gi_1 rfl okX6_manyBars_134 (Nat.le_of_ble_eq_true rfl) ?_
  refine g_istore (lv' := [(6, .int x1), (0, .ref 1), (1, .int p1), (2, .int p2), (3, .int v3), (4, .int v4), (5, .int v5)]) dX6_manyBars_62 (Nat.le_of_ble_eq_true rfl) rfl ?_
  refine g_aload_n dX6_manyBars_64 rfl 1 rfl ?_
  refine g_iload dX6_manyBars_65 5 rfl ?_
  refine g_iload dX6_manyBars_67 0 rfl ?_
  obtain ⟨_, σ4, y5, h⟩ := bd_some h
  refine g_callVv (as := [.int v4, .int x1]) (st := []) (zX6_addBar y5) dX6_manyBars_69 gi_1 rfl okX6_manyBars_130 (Nat.le_of_ble_eq_true rfl) ?_
  refine g_iload dX6_manyBars_72 0 rfl ?_
  refine g_istore (lv' := [(4, .int x1), (6, .int x1), (0, .ref 1), (1, .int p1), (2, .int p2), (3, .int v3), (5, .int v5)]) dX6_manyBars_74 (Nat.le_of_ble_eq_true rfl) rfl ?_
  obtain ⟨x6, ex6, h⟩ := bnd_nm h
  refine g_iinc (j := 6) (v := x6) (lv' := [(5, .int x6), (4, .int x1), (6, .int x1), (0, .ref 1), (1, .int p1), (2, .int p2), (3, .int v3)]) dX6_manyBars_76 rfl (by rw [ex6]; rfl) (Nat.le_of_ble_eq_true rfl) rfl ?_
  refine g_goto (t := 12) dX6_manyBars_79 (by decide) ?_
  refine g_sub [3, 4, 5, 6, 1, 0] rfl ?_
  exact hk12 v3 x1 x6 σ4 h
def fX6_manyBars_82 (p1 : Int32) (p2 : Int32) (σ : gS) : Option (Unit × gS) :=
  some ((), σ)
set_option maxHeartbeats 4000000 in
set_option maxRecDepth 100000 in
theorem pX6_manyBars_82 {E : gE} {p1 : Int32} {p2 : Int32} {r : Unit} {σ' : gS} {σ : gS} (h : fX6_manyBars_82 p1 p2 σ = some (r, σ')) : gG E mX6_manyBars 82 [] [] σ (none) σ' := by
  unfold fX6_manyBars_82 at h
  obtain ⟨rfl, rfl⟩ := so_inj h
  exact g_vret dX6_manyBars_82 rfl
def fX6_manyBars_12 (p1 : Int32) (p2 : Int32) : Nat → Int32 → Int32 → Int32 → gS → Option (Unit × gS)
  | 0, _, _, _, _ => none
  | n + 1, v3, v4, v5, σ => if 1200 < v5 then
    fX6_manyBars_82 p1 p2 σ
  else
    if (σ.1 1 8) = 0 then
      bd (fX6_next σ) fun _ σ3 =>
      if (σ3.1 1 5) = 5 then
        if v5 < p1 then
          fX6_manyBars_57 p1 p2 (fun v3 v4 v5 σ => fX6_manyBars_12 p1 p2 n v3 v4 v5 σ) v3 v4 v5 σ3
        else
          if p2 = 0 then
            fX6_manyBars_56 p1 p2 σ3
          else
            bd (fX6_addBar v4 v3 σ3) fun _ σ8 =>
            fX6_manyBars_56 p1 p2 σ8
      else
        fX6_manyBars_57 p1 p2 (fun v3 v4 v5 σ => fX6_manyBars_12 p1 p2 n v3 v4 v5 σ) v3 v4 v5 σ3
    else
      fX6_manyBars_82 p1 p2 σ
set_option maxHeartbeats 4000000 in
set_option maxRecDepth 100000 in
theorem pX6_manyBars_12 {E : gE} {p1 : Int32} {p2 : Int32} {r : Unit} {σ' : gS} : ∀ (n : Nat) (v3 : Int32) (v4 : Int32) (v5 : Int32) (σ : gS), fX6_manyBars_12 p1 p2 n v3 v4 v5 σ = some (r, σ') → gG E mX6_manyBars 12 [(0, .ref 1), (1, .int p1), (2, .int p2), (3, .int v3), (4, .int v4), (5, .int v5)] [] σ (none) σ' := by
  intro n
  induction n with
  | zero => intro v3 v4 v5 σ h; exact absurd (show none = some (r, σ') from h) (by intro q; cases q)
  | succ n ih =>
  intro v3 v4 v5 σ h
  unfold fX6_manyBars_12 at h
  refine g_iload dX6_manyBars_12 5 rfl ?_
  refine g_sipush (v := 1200) dX6_manyBars_14 (by decide) ?_
  refine g_icmp_gt (t := 82) dX6_manyBars_17 (by decide) (fun c1 => ?_) (fun c1 => ?_)
  · replace h := if_t h c1
    refine g_sub [] rfl ?_
    exact pX6_manyBars_82 h
  · replace h := if_f h c1
    refine g_aload_n dX6_manyBars_20 rfl 0 rfl ?_
    refine g_getI dX6_manyBars_21 gi_1 rfl fl_RX6_56 ?_
    refine g_if_ne (t := 82) dX6_manyBars_24 (by decide) (fun c2 => ?_) (fun c2 => ?_)
    · replace h := if_f h c2
      refine g_sub [] rfl ?_
      exact pX6_manyBars_82 h
    · replace h := if_t h c2
      refine g_aload_n dX6_manyBars_27 rfl 0 rfl ?_
      obtain ⟨_, σ3, y4, h⟩ := bd_some h
      refine g_callVv (as := []) (st := []) (zX6_next y4) dX6_manyBars_28 gi_1 rfl okX6_manyBars_59 (Nat.le_of_ble_eq_true rfl) ?_
      refine g_aload_n dX6_manyBars_31 rfl 0 rfl ?_
      refine g_getI dX6_manyBars_32 gi_1 rfl fl_RX6_62 ?_
      refine g_iconst (v := 5) dX6_manyBars_35 (by decide) ?_
      refine g_icmp_ne (t := 57) dX6_manyBars_36 (by decide) (fun c5 => ?_) (fun c5 => ?_)
      · replace h := if_f h c5
        exact pX6_manyBars_57 (fun v3 v4 v5 σ h => ih v3 v4 v5 σ h) h
      · replace h := if_t h c5
        refine g_iload dX6_manyBars_39 5 rfl ?_
        refine g_iload_n dX6_manyBars_41 rfl 1 rfl ?_
        refine g_icmp_lt (t := 57) dX6_manyBars_42 (by decide) (fun c6 => ?_) (fun c6 => ?_)
        · replace h := if_t h c6
          exact pX6_manyBars_57 (fun v3 v4 v5 σ h => ih v3 v4 v5 σ h) h
        · replace h := if_f h c6
          refine g_iload_n dX6_manyBars_45 rfl 2 rfl ?_
          refine g_if_eq (t := 56) dX6_manyBars_46 (by decide) (fun c7 => ?_) (fun c7 => ?_)
          · replace h := if_t h c7
            refine g_sub [] rfl ?_
            exact pX6_manyBars_56 h
          · replace h := if_f h c7
            refine g_aload_n dX6_manyBars_49 rfl 0 rfl ?_
            refine g_iload dX6_manyBars_50 4 rfl ?_
            refine g_iload_n dX6_manyBars_52 rfl 3 rfl ?_
            obtain ⟨_, σ8, y9, h⟩ := bd_some h
            refine g_callVv (as := [.int v4, .int v3]) (st := []) (zX6_addBar y9) dX6_manyBars_53 gi_1 rfl okX6_manyBars_130 (Nat.le_of_ble_eq_true rfl) ?_
            refine g_sub [] rfl ?_
            exact pX6_manyBars_56 h
def fX6_manyBars (p1 : Int32) (p2 : Int32) (σ : gS) : Option (Unit × gS) :=
  bd (fX6_knownName 0 σ) fun x1 σ2 =>
  fX6_manyBars_12 p1 p2 2000 x1 x1 1 σ2
set_option maxHeartbeats 4000000 in
set_option maxRecDepth 100000 in
theorem pX6_manyBars {E : gE} {p1 : Int32} {p2 : Int32} {r : Unit} {σ' : gS} {σ : gS} (h : fX6_manyBars p1 p2 σ = some (r, σ')) : gG E mX6_manyBars 0 [(0, .ref 1), (1, .int p1), (2, .int p2)] [] σ (none) σ' := by
  unfold fX6_manyBars at h
  refine g_aload_n dX6_manyBars_0 rfl 0 rfl ?_
  refine g_iconst (v := 0) dX6_manyBars_1 (by decide) ?_
  obtain ⟨x1, σ2, y3, h⟩ := bd_some h
  refine g_callVr (as := [.int 0]) (st := []) (zX6_knownName y3) dX6_manyBars_2 gi_1 rfl okX6_manyBars_127 (Nat.le_of_ble_eq_true rfl) ?_
  refine g_istore_n (lv' := [(3, .int x1), (0, .ref 1), (1, .int p1), (2, .int p2)]) dX6_manyBars_5 rfl (Nat.le_of_ble_eq_true rfl) rfl ?_
  refine g_iload_n dX6_manyBars_6 rfl 0 rfl ?_
  refine g_istore (lv' := [(4, .int x1), (3, .int x1), (0, .ref 1), (1, .int p1), (2, .int p2)]) dX6_manyBars_7 (Nat.le_of_ble_eq_true rfl) rfl ?_
  refine g_iconst (v := 1) dX6_manyBars_9 (by decide) ?_
  refine g_istore (lv' := [(5, .int 1), (4, .int x1), (3, .int x1), (0, .ref 1), (1, .int p1), (2, .int p2)]) dX6_manyBars_10 (Nat.le_of_ble_eq_true rfl) rfl ?_
  refine g_sub [3, 4, 5, 2, 1, 0] rfl ?_
  exact pX6_manyBars_12 2000 x1 x1 1 σ2 h
theorem zX6_manyBars {E : gE} {p1 : Int32} {p2 : Int32} {r : Unit} {σ σ' : gS} (h : fX6_manyBars p1 p2 σ = some (r, σ')) : gC E mX6_manyBars [.ref 1, .int p1, .int p2] σ (none) σ' :=
  gC_of (by decide +kernel) rfl (Nat.le_of_ble_eq_true rfl) (pX6_manyBars h)
def mX6_expectWord : gM := (yX6_expectWord, cX6_expectWord, RX6, 2, none, 3, 64)
theorem dX6_expectWord_0 : decode mX6_expectWord.2.1 0 = .ok (.aload_n 0, 1) := by decide +kernel
theorem dX6_expectWord_1 : decode mX6_expectWord.2.1 1 = .ok (.getfield 56, 3) := by decide +kernel
theorem dX6_expectWord_4 : decode mX6_expectWord.2.1 4 = .ok (.ifCond .eq 4, 3) := by decide +kernel
theorem dX6_expectWord_7 : decode mX6_expectWord.2.1 7 = .ok (.return_, 1) := by decide +kernel
theorem dX6_expectWord_8 : decode mX6_expectWord.2.1 8 = .ok (.aload_n 0, 1) := by decide +kernel
theorem dX6_expectWord_9 : decode mX6_expectWord.2.1 9 = .ok (.invokevirtual 59, 3) := by decide +kernel
theorem dX6_expectWord_12 : decode mX6_expectWord.2.1 12 = .ok (.aload_n 0, 1) := by decide +kernel
theorem dX6_expectWord_13 : decode mX6_expectWord.2.1 13 = .ok (.getfield 62, 3) := by decide +kernel
theorem dX6_expectWord_16 : decode mX6_expectWord.2.1 16 = .ok (.iconst 2, 1) := by decide +kernel
theorem dX6_expectWord_17 : decode mX6_expectWord.2.1 17 = .ok (.if_icmp .ne 11, 3) := by decide +kernel
theorem dX6_expectWord_20 : decode mX6_expectWord.2.1 20 = .ok (.aload_n 0, 1) := by decide +kernel
theorem dX6_expectWord_21 : decode mX6_expectWord.2.1 21 = .ok (.getfield 84, 3) := by decide +kernel
theorem dX6_expectWord_24 : decode mX6_expectWord.2.1 24 = .ok (.iload_n 1, 1) := by decide +kernel
theorem dX6_expectWord_25 : decode mX6_expectWord.2.1 25 = .ok (.if_icmp .eq 7, 3) := by decide +kernel
theorem dX6_expectWord_28 : decode mX6_expectWord.2.1 28 = .ok (.aload_n 0, 1) := by decide +kernel
theorem dX6_expectWord_29 : decode mX6_expectWord.2.1 29 = .ok (.invokevirtual 91, 3) := by decide +kernel
theorem dX6_expectWord_32 : decode mX6_expectWord.2.1 32 = .ok (.return_, 1) := by decide +kernel
theorem okX6_expectWord_91 : gOkV mX6_expectWord mX6_failUnfit 91 0 := ⟨List.forall_mem_cons.mpr ⟨(gm 615 (by decide +kernel) rfl), List.forall_mem_cons.mpr ⟨(gm 612 (by decide +kernel) rfl), List.forall_mem_cons.mpr ⟨(gm 614 (by decide +kernel) rfl), List.forall_mem_cons.mpr ⟨(gm 6 (by decide +kernel) rfl), List.forall_mem_cons.mpr ⟨(gm 108 (by decide +kernel) rfl), fun _ h => absurd h List.not_mem_nil⟩⟩⟩⟩⟩, by decide +kernel, by decide +kernel, by decide +kernel⟩
theorem okX6_expectWord_59 : gOkV mX6_expectWord mX6_next 59 0 := ⟨List.forall_mem_cons.mpr ⟨(gm 591 (by decide +kernel) rfl), List.forall_mem_cons.mpr ⟨(gm 588 (by decide +kernel) rfl), List.forall_mem_cons.mpr ⟨(gm 590 (by decide +kernel) rfl), List.forall_mem_cons.mpr ⟨(gm 0 (by decide +kernel) rfl), List.forall_mem_cons.mpr ⟨(gm 108 (by decide +kernel) rfl), fun _ h => absurd h List.not_mem_nil⟩⟩⟩⟩⟩, by decide +kernel, by decide +kernel, by decide +kernel⟩
def fX6_expectWord_32 (p1 : Int32) (σ : gS) : Option (Unit × gS) :=
  some ((), σ)
set_option maxHeartbeats 4000000 in
set_option maxRecDepth 100000 in
theorem pX6_expectWord_32 {E : gE} {p1 : Int32} {r : Unit} {σ' : gS} {σ : gS} (h : fX6_expectWord_32 p1 σ = some (r, σ')) : gG E mX6_expectWord 32 [] [] σ (none) σ' := by
  unfold fX6_expectWord_32 at h
  obtain ⟨rfl, rfl⟩ := so_inj h
  exact g_vret dX6_expectWord_32 rfl
def fX6_expectWord_28 (p1 : Int32) (σ : gS) : Option (Unit × gS) :=
  bd (fX6_failUnfit σ) fun _ σ1 =>
  fX6_expectWord_32 p1 σ1
set_option maxHeartbeats 4000000 in
set_option maxRecDepth 100000 in
theorem pX6_expectWord_28 {E : gE} {p1 : Int32} {r : Unit} {σ' : gS} {σ : gS} (h : fX6_expectWord_28 p1 σ = some (r, σ')) : gG E mX6_expectWord 28 [(0, .ref 1)] [] σ (none) σ' := by
  unfold fX6_expectWord_28 at h
  refine g_aload_n dX6_expectWord_28 rfl 0 rfl ?_
  obtain ⟨_, σ1, y2, h⟩ := bd_some h
  refine g_callVv (as := []) (st := []) (zX6_failUnfit y2) dX6_expectWord_29 gi_1 rfl okX6_expectWord_91 (Nat.le_of_ble_eq_true rfl) ?_
  refine g_sub [] rfl ?_
  exact pX6_expectWord_32 h
def fX6_expectWord (p1 : Int32) (σ : gS) : Option (Unit × gS) :=
  if (σ.1 1 8) = 0 then
    bd (fX6_next σ) fun _ σ2 =>
    if (σ2.1 1 5) = 2 then
      if (σ2.1 1 7) = p1 then
        fX6_expectWord_32 p1 σ2
      else
        fX6_expectWord_28 p1 σ2
    else
      fX6_expectWord_28 p1 σ2
  else
    some ((), σ)
set_option maxHeartbeats 4000000 in
set_option maxRecDepth 100000 in
theorem pX6_expectWord {E : gE} {p1 : Int32} {r : Unit} {σ' : gS} {σ : gS} (h : fX6_expectWord p1 σ = some (r, σ')) : gG E mX6_expectWord 0 [(0, .ref 1), (1, .int p1)] [] σ (none) σ' := by
  unfold fX6_expectWord at h
  refine g_aload_n dX6_expectWord_0 rfl 0 rfl ?_
  refine g_getI dX6_expectWord_1 gi_1 rfl fl_RX6_56 ?_
  refine g_if_eq (t := 8) dX6_expectWord_4 (by decide) (fun c1 => ?_) (fun c1 => ?_)
  · replace h := if_t h c1
    refine g_aload_n dX6_expectWord_8 rfl 0 rfl ?_
    obtain ⟨_, σ2, y3, h⟩ := bd_some h
    refine g_callVv (as := []) (st := []) (zX6_next y3) dX6_expectWord_9 gi_1 rfl okX6_expectWord_59 (Nat.le_of_ble_eq_true rfl) ?_
    refine g_aload_n dX6_expectWord_12 rfl 0 rfl ?_
    refine g_getI dX6_expectWord_13 gi_1 rfl fl_RX6_62 ?_
    refine g_iconst (v := 2) dX6_expectWord_16 (by decide) ?_
    refine g_icmp_ne (t := 28) dX6_expectWord_17 (by decide) (fun c4 => ?_) (fun c4 => ?_)
    · replace h := if_f h c4
      refine g_sub [0] rfl ?_
      exact pX6_expectWord_28 h
    · replace h := if_t h c4
      refine g_aload_n dX6_expectWord_20 rfl 0 rfl ?_
      refine g_getI dX6_expectWord_21 gi_1 rfl fl_RX6_84 ?_
      refine g_iload_n dX6_expectWord_24 rfl 1 rfl ?_
      refine g_icmp_eq (t := 32) dX6_expectWord_25 (by decide) (fun c5 => ?_) (fun c5 => ?_)
      · replace h := if_t h c5
        refine g_sub [] rfl ?_
        exact pX6_expectWord_32 h
      · replace h := if_f h c5
        refine g_sub [0] rfl ?_
        exact pX6_expectWord_28 h
  · replace h := if_f h c1
    obtain ⟨rfl, rfl⟩ := so_inj h
    exact g_vret dX6_expectWord_7 rfl
theorem zX6_expectWord {E : gE} {p1 : Int32} {r : Unit} {σ σ' : gS} (h : fX6_expectWord p1 σ = some (r, σ')) : gC E mX6_expectWord [.ref 1, .int p1] σ (none) σ' :=
  gC_of (by decide +kernel) rfl (Nat.le_of_ble_eq_true rfl) (pX6_expectWord h)
def mX6_wheel : gM := (yX6_wheel, cX6_wheel, RX6, 4, none, 4, 86)
theorem dX6_wheel_0 : decode mX6_wheel.2.1 0 = .ok (.aload_n 0, 1) := by decide +kernel
theorem dX6_wheel_1 : decode mX6_wheel.2.1 1 = .ok (.iconst 2, 1) := by decide +kernel
theorem dX6_wheel_2 : decode mX6_wheel.2.1 2 = .ok (.invokevirtual 113, 3) := by decide +kernel
theorem dX6_wheel_5 : decode mX6_wheel.2.1 5 = .ok (.istore_n 1, 1) := by decide +kernel
theorem dX6_wheel_6 : decode mX6_wheel.2.1 6 = .ok (.aload_n 0, 1) := by decide +kernel
theorem dX6_wheel_7 : decode mX6_wheel.2.1 7 = .ok (.bipush 6, 2) := by decide +kernel
theorem dX6_wheel_9 : decode mX6_wheel.2.1 9 = .ok (.invokevirtual 147, 3) := by decide +kernel
theorem dX6_wheel_12 : decode mX6_wheel.2.1 12 = .ok (.aload_n 0, 1) := by decide +kernel
theorem dX6_wheel_13 : decode mX6_wheel.2.1 13 = .ok (.iconst 0, 1) := by decide +kernel
theorem dX6_wheel_14 : decode mX6_wheel.2.1 14 = .ok (.invokevirtual 127, 3) := by decide +kernel
theorem dX6_wheel_17 : decode mX6_wheel.2.1 17 = .ok (.istore_n 2, 1) := by decide +kernel
theorem dX6_wheel_18 : decode mX6_wheel.2.1 18 = .ok (.aload_n 0, 1) := by decide +kernel
theorem dX6_wheel_19 : decode mX6_wheel.2.1 19 = .ok (.iconst 3, 1) := by decide +kernel
theorem dX6_wheel_20 : decode mX6_wheel.2.1 20 = .ok (.sipush 200, 3) := by decide +kernel
theorem dX6_wheel_23 : decode mX6_wheel.2.1 23 = .ok (.invokevirtual 117, 3) := by decide +kernel
theorem dX6_wheel_26 : decode mX6_wheel.2.1 26 = .ok (.istore_n 3, 1) := by decide +kernel
theorem dX6_wheel_27 : decode mX6_wheel.2.1 27 = .ok (.aload_n 0, 1) := by decide +kernel
theorem dX6_wheel_28 : decode mX6_wheel.2.1 28 = .ok (.invokevirtual 120, 3) := by decide +kernel
theorem dX6_wheel_31 : decode mX6_wheel.2.1 31 = .ok (.aload_n 0, 1) := by decide +kernel
theorem dX6_wheel_32 : decode mX6_wheel.2.1 32 = .ok (.getfield 56, 3) := by decide +kernel
theorem dX6_wheel_35 : decode mX6_wheel.2.1 35 = .ok (.ifCond .ne 14, 3) := by decide +kernel
theorem dX6_wheel_38 : decode mX6_wheel.2.1 38 = .ok (.aload_n 0, 1) := by decide +kernel
theorem dX6_wheel_39 : decode mX6_wheel.2.1 39 = .ok (.getfield 22, 3) := by decide +kernel
theorem dX6_wheel_42 : decode mX6_wheel.2.1 42 = .ok (.iconst 3, 1) := by decide +kernel
theorem dX6_wheel_43 : decode mX6_wheel.2.1 43 = .ok (.iload_n 1, 1) := by decide +kernel
theorem dX6_wheel_44 : decode mX6_wheel.2.1 44 = .ok (.iload_n 2, 1) := by decide +kernel
theorem dX6_wheel_45 : decode mX6_wheel.2.1 45 = .ok (.iload_n 3, 1) := by decide +kernel
theorem dX6_wheel_46 : decode mX6_wheel.2.1 46 = .ok (.invokevirtual 123, 3) := by decide +kernel
theorem dX6_wheel_49 : decode mX6_wheel.2.1 49 = .ok (.return_, 1) := by decide +kernel
theorem okX6_wheel_113 : gOkV mX6_wheel mX6_newName 113 1 := ⟨List.forall_mem_cons.mpr ⟨(gm 627 (by decide +kernel) rfl), List.forall_mem_cons.mpr ⟨(gm 624 (by decide +kernel) rfl), List.forall_mem_cons.mpr ⟨(gm 626 (by decide +kernel) rfl), List.forall_mem_cons.mpr ⟨(gm 9 (by decide +kernel) rfl), List.forall_mem_cons.mpr ⟨(gm 108 (by decide +kernel) rfl), fun _ h => absurd h List.not_mem_nil⟩⟩⟩⟩⟩, by decide +kernel, by decide +kernel, by decide +kernel⟩
theorem okX6_wheel_147 : gOkV mX6_wheel mX6_expectWord 147 1 := ⟨List.forall_mem_cons.mpr ⟨(gm 708 (by decide +kernel) rfl), List.forall_mem_cons.mpr ⟨(gm 705 (by decide +kernel) rfl), List.forall_mem_cons.mpr ⟨(gm 707 (by decide +kernel) rfl), List.forall_mem_cons.mpr ⟨(gm 18 (by decide +kernel) rfl), List.forall_mem_cons.mpr ⟨(gm 108 (by decide +kernel) rfl), fun _ h => absurd h List.not_mem_nil⟩⟩⟩⟩⟩, by decide +kernel, by decide +kernel, by decide +kernel⟩
theorem okX6_wheel_127 : gOkV mX6_wheel mX6_knownName 127 1 := ⟨List.forall_mem_cons.mpr ⟨(gm 660 (by decide +kernel) rfl), List.forall_mem_cons.mpr ⟨(gm 657 (by decide +kernel) rfl), List.forall_mem_cons.mpr ⟨(gm 659 (by decide +kernel) rfl), List.forall_mem_cons.mpr ⟨(gm 13 (by decide +kernel) rfl), List.forall_mem_cons.mpr ⟨(gm 108 (by decide +kernel) rfl), fun _ h => absurd h List.not_mem_nil⟩⟩⟩⟩⟩, by decide +kernel, by decide +kernel, by decide +kernel⟩
theorem okX6_wheel_117 : gOkV mX6_wheel mX6_number 117 2 := ⟨List.forall_mem_cons.mpr ⟨(gm 641 (by decide +kernel) rfl), List.forall_mem_cons.mpr ⟨(gm 638 (by decide +kernel) rfl), List.forall_mem_cons.mpr ⟨(gm 640 (by decide +kernel) rfl), List.forall_mem_cons.mpr ⟨(gm 10 (by decide +kernel) rfl), List.forall_mem_cons.mpr ⟨(gm 108 (by decide +kernel) rfl), fun _ h => absurd h List.not_mem_nil⟩⟩⟩⟩⟩, by decide +kernel, by decide +kernel, by decide +kernel⟩
theorem okX6_wheel_120 : gOkV mX6_wheel mX6_expectSign 120 0 := ⟨List.forall_mem_cons.mpr ⟨(gm 645 (by decide +kernel) rfl), List.forall_mem_cons.mpr ⟨(gm 642 (by decide +kernel) rfl), List.forall_mem_cons.mpr ⟨(gm 644 (by decide +kernel) rfl), List.forall_mem_cons.mpr ⟨(gm 11 (by decide +kernel) rfl), List.forall_mem_cons.mpr ⟨(gm 108 (by decide +kernel) rfl), fun _ h => absurd h List.not_mem_nil⟩⟩⟩⟩⟩, by decide +kernel, by decide +kernel, by decide +kernel⟩
theorem okX6_wheel_123 : gOkV mX6_wheel mX3_add 123 4 := ⟨List.forall_mem_cons.mpr ⟨(gm 649 (by decide +kernel) rfl), List.forall_mem_cons.mpr ⟨(gm 646 (by decide +kernel) rfl), List.forall_mem_cons.mpr ⟨(gm 647 (by decide +kernel) rfl), List.forall_mem_cons.mpr ⟨(gm 648 (by decide +kernel) rfl), List.forall_mem_cons.mpr ⟨(gm 109 (by decide +kernel) rfl), fun _ h => absurd h List.not_mem_nil⟩⟩⟩⟩⟩, by decide +kernel, by decide +kernel, by decide +kernel⟩
def fX6_wheel_49 (σ : gS) : Option (Unit × gS) :=
  some ((), σ)
set_option maxHeartbeats 4000000 in
set_option maxRecDepth 100000 in
theorem pX6_wheel_49 {E : gE} {r : Unit} {σ' : gS} {σ : gS} (h : fX6_wheel_49 σ = some (r, σ')) : gG E mX6_wheel 49 [] [] σ (none) σ' := by
  unfold fX6_wheel_49 at h
  obtain ⟨rfl, rfl⟩ := so_inj h
  exact g_vret dX6_wheel_49 rfl
def fX6_wheel (σ : gS) : Option (Unit × gS) :=
  bd (fX6_newName 2 σ) fun x1 σ2 =>
  bd (fX6_expectWord 6 σ2) fun _ σ4 =>
  bd (fX6_knownName 0 σ4) fun x6 σ7 =>
  bd (fX6_number 3 200 σ7) fun x9 σ10 =>
  bd (fX6_expectSign σ10) fun _ σ12 =>
  if (σ12.1 1 8) = 0 then
    bnd (σ12.2.2 1 3) fun x15 =>
    gg (x15 = 4 ∨ x15 = 16) (
    bd (fX3_add x15 3 x1 x6 x9 σ12) fun _ σ17 =>
    fX6_wheel_49 σ17)
  else
    fX6_wheel_49 σ12
set_option maxHeartbeats 4000000 in
set_option maxRecDepth 100000 in
theorem pX6_wheel {E : gE} {r : Unit} {σ' : gS} {σ : gS} (h : fX6_wheel σ = some (r, σ')) : gG E mX6_wheel 0 [(0, .ref 1)] [] σ (none) σ' := by
  unfold fX6_wheel at h
  refine g_aload_n dX6_wheel_0 rfl 0 rfl ?_
  refine g_iconst (v := 2) dX6_wheel_1 (by decide) ?_
  obtain ⟨x1, σ2, y3, h⟩ := bd_some h
  refine g_callVr (as := [.int 2]) (st := []) (zX6_newName y3) dX6_wheel_2 gi_1 rfl okX6_wheel_113 (Nat.le_of_ble_eq_true rfl) ?_
  refine g_istore_n (lv' := [(1, .int x1), (0, .ref 1)]) dX6_wheel_5 rfl (Nat.le_of_ble_eq_true rfl) rfl ?_
  refine g_aload_n dX6_wheel_6 rfl 1 rfl ?_
  refine g_bipush (v := 6) dX6_wheel_7 (by decide) ?_
  obtain ⟨_, σ4, y5, h⟩ := bd_some h
  refine g_callVv (as := [.int 6]) (st := []) (zX6_expectWord y5) dX6_wheel_9 gi_1 rfl okX6_wheel_147 (Nat.le_of_ble_eq_true rfl) ?_
  refine g_aload_n dX6_wheel_12 rfl 1 rfl ?_
  refine g_iconst (v := 0) dX6_wheel_13 (by decide) ?_
  obtain ⟨x6, σ7, y8, h⟩ := bd_some h
  refine g_callVr (as := [.int 0]) (st := []) (zX6_knownName y8) dX6_wheel_14 gi_1 rfl okX6_wheel_127 (Nat.le_of_ble_eq_true rfl) ?_
  refine g_istore_n (lv' := [(2, .int x6), (1, .int x1), (0, .ref 1)]) dX6_wheel_17 rfl (Nat.le_of_ble_eq_true rfl) rfl ?_
  refine g_aload_n dX6_wheel_18 rfl 2 rfl ?_
  refine g_iconst (v := 3) dX6_wheel_19 (by decide) ?_
  refine g_sipush (v := 200) dX6_wheel_20 (by decide) ?_
  obtain ⟨x9, σ10, y11, h⟩ := bd_some h
  refine g_callVr (as := [.int 3, .int 200]) (st := []) (zX6_number y11) dX6_wheel_23 gi_1 rfl okX6_wheel_117 (Nat.le_of_ble_eq_true rfl) ?_
  refine g_istore_n (lv' := [(3, .int x9), (2, .int x6), (1, .int x1), (0, .ref 1)]) dX6_wheel_26 rfl (Nat.le_of_ble_eq_true rfl) rfl ?_
  refine g_aload_n dX6_wheel_27 rfl 3 rfl ?_
  obtain ⟨_, σ12, y13, h⟩ := bd_some h
  refine g_callVv (as := []) (st := []) (zX6_expectSign y13) dX6_wheel_28 gi_1 rfl okX6_wheel_120 (Nat.le_of_ble_eq_true rfl) ?_
  refine g_aload_n dX6_wheel_31 rfl 3 rfl ?_
  refine g_getI dX6_wheel_32 gi_1 rfl fl_RX6_56 ?_
  refine g_if_ne (t := 49) dX6_wheel_35 (by decide) (fun c14 => ?_) (fun c14 => ?_)
  · replace h := if_f h c14
    refine g_sub [] rfl ?_
    exact pX6_wheel_49 h
  · replace h := if_t h c14
    refine g_aload_n dX6_wheel_38 rfl 3 rfl ?_
    refine g_getR dX6_wheel_39 gi_1 rfl fl_RX6_22 ?_
    obtain ⟨x15, ex15, h⟩ := bnd_nm h
    refine g_topr ex15 ?_
    obtain ⟨g16, h⟩ := gg_some h
    refine g_iconst (v := 3) dX6_wheel_42 (by decide) ?_
    refine g_iload_n dX6_wheel_43 rfl 2 rfl ?_
    refine g_iload_n dX6_wheel_44 rfl 1 rfl ?_
    refine g_iload_n dX6_wheel_45 rfl 0 rfl ?_
    obtain ⟨_, σ17, y18, h⟩ := bd_some h
    refine g_callVv (as := [.int 3, .int x1, .int x6, .int x9]) (st := []) (zX3_add g16 y18) dX6_wheel_46 (gi_lk g16) rfl okX6_wheel_123 (Nat.le_of_ble_eq_true rfl) ?_
    refine g_sub [] rfl ?_
    exact pX6_wheel_49 h
theorem zX6_wheel {E : gE} {r : Unit} {σ σ' : gS} (h : fX6_wheel σ = some (r, σ')) : gC E mX6_wheel [.ref 1] σ (none) σ' :=
  gC_of (by decide +kernel) rfl (Nat.le_of_ble_eq_true rfl) (pX6_wheel h)
def mX6_coupling : gM := (yX6_coupling, cX6_coupling, RX6, 4, none, 4, 85)
theorem dX6_coupling_0 : decode mX6_coupling.2.1 0 = .ok (.aload_n 0, 1) := by decide +kernel
theorem dX6_coupling_1 : decode mX6_coupling.2.1 1 = .ok (.iconst 2, 1) := by decide +kernel
theorem dX6_coupling_2 : decode mX6_coupling.2.1 2 = .ok (.invokevirtual 127, 3) := by decide +kernel
theorem dX6_coupling_5 : decode mX6_coupling.2.1 5 = .ok (.istore_n 2, 1) := by decide +kernel
theorem dX6_coupling_6 : decode mX6_coupling.2.1 6 = .ok (.aload_n 0, 1) := by decide +kernel
theorem dX6_coupling_7 : decode mX6_coupling.2.1 7 = .ok (.iconst 2, 1) := by decide +kernel
theorem dX6_coupling_8 : decode mX6_coupling.2.1 8 = .ok (.invokevirtual 127, 3) := by decide +kernel
theorem dX6_coupling_11 : decode mX6_coupling.2.1 11 = .ok (.istore_n 3, 1) := by decide +kernel
theorem dX6_coupling_12 : decode mX6_coupling.2.1 12 = .ok (.aload_n 0, 1) := by decide +kernel
theorem dX6_coupling_13 : decode mX6_coupling.2.1 13 = .ok (.getfield 56, 3) := by decide +kernel
theorem dX6_coupling_16 : decode mX6_coupling.2.1 16 = .ok (.ifCond .eq 4, 3) := by decide +kernel
theorem dX6_coupling_19 : decode mX6_coupling.2.1 19 = .ok (.return_, 1) := by decide +kernel
theorem dX6_coupling_20 : decode mX6_coupling.2.1 20 = .ok (.aload_n 0, 1) := by decide +kernel
theorem dX6_coupling_21 : decode mX6_coupling.2.1 21 = .ok (.getfield 22, 3) := by decide +kernel
theorem dX6_coupling_24 : decode mX6_coupling.2.1 24 = .ok (.iconst 3, 1) := by decide +kernel
theorem dX6_coupling_25 : decode mX6_coupling.2.1 25 = .ok (.invokevirtual 137, 3) := by decide +kernel
theorem dX6_coupling_28 : decode mX6_coupling.2.1 28 = .ok (.ifCond .eq 12, 3) := by decide +kernel
theorem dX6_coupling_31 : decode mX6_coupling.2.1 31 = .ok (.aload_n 0, 1) := by decide +kernel
theorem dX6_coupling_32 : decode mX6_coupling.2.1 32 = .ok (.bipush 6, 2) := by decide +kernel
theorem dX6_coupling_34 : decode mX6_coupling.2.1 34 = .ok (.invokevirtual 87, 3) := by decide +kernel
theorem dX6_coupling_37 : decode mX6_coupling.2.1 37 = .ok (.goto 54, 3) := by decide +kernel
theorem dX6_coupling_40 : decode mX6_coupling.2.1 40 = .ok (.iload_n 2, 1) := by decide +kernel
theorem dX6_coupling_41 : decode mX6_coupling.2.1 41 = .ok (.iload_n 3, 1) := by decide +kernel
theorem dX6_coupling_42 : decode mX6_coupling.2.1 42 = .ok (.if_icmp .eq 29, 3) := by decide +kernel
theorem dX6_coupling_45 : decode mX6_coupling.2.1 45 = .ok (.iload_n 1, 1) := by decide +kernel
theorem dX6_coupling_46 : decode mX6_coupling.2.1 46 = .ok (.iconst 4, 1) := by decide +kernel
theorem dX6_coupling_47 : decode mX6_coupling.2.1 47 = .ok (.if_icmp .ne 33, 3) := by decide +kernel
theorem dX6_coupling_50 : decode mX6_coupling.2.1 50 = .ok (.aload_n 0, 1) := by decide +kernel
theorem dX6_coupling_51 : decode mX6_coupling.2.1 51 = .ok (.getfield 22, 3) := by decide +kernel
theorem dX6_coupling_54 : decode mX6_coupling.2.1 54 = .ok (.iconst 2, 1) := by decide +kernel
theorem dX6_coupling_55 : decode mX6_coupling.2.1 55 = .ok (.iload_n 2, 1) := by decide +kernel
theorem dX6_coupling_56 : decode mX6_coupling.2.1 56 = .ok (.invokevirtual 150, 3) := by decide +kernel
theorem dX6_coupling_59 : decode mX6_coupling.2.1 59 = .ok (.aload_n 0, 1) := by decide +kernel
theorem dX6_coupling_60 : decode mX6_coupling.2.1 60 = .ok (.getfield 22, 3) := by decide +kernel
theorem dX6_coupling_63 : decode mX6_coupling.2.1 63 = .ok (.iconst 2, 1) := by decide +kernel
theorem dX6_coupling_64 : decode mX6_coupling.2.1 64 = .ok (.iload_n 3, 1) := by decide +kernel
theorem dX6_coupling_65 : decode mX6_coupling.2.1 65 = .ok (.invokevirtual 150, 3) := by decide +kernel
theorem dX6_coupling_68 : decode mX6_coupling.2.1 68 = .ok (.if_icmp .ne 12, 3) := by decide +kernel
theorem dX6_coupling_71 : decode mX6_coupling.2.1 71 = .ok (.aload_n 0, 1) := by decide +kernel
theorem dX6_coupling_72 : decode mX6_coupling.2.1 72 = .ok (.bipush 7, 2) := by decide +kernel
theorem dX6_coupling_74 : decode mX6_coupling.2.1 74 = .ok (.invokevirtual 87, 3) := by decide +kernel
theorem dX6_coupling_77 : decode mX6_coupling.2.1 77 = .ok (.goto 14, 3) := by decide +kernel
theorem dX6_coupling_80 : decode mX6_coupling.2.1 80 = .ok (.aload_n 0, 1) := by decide +kernel
theorem dX6_coupling_81 : decode mX6_coupling.2.1 81 = .ok (.getfield 22, 3) := by decide +kernel
theorem dX6_coupling_84 : decode mX6_coupling.2.1 84 = .ok (.iload_n 1, 1) := by decide +kernel
theorem dX6_coupling_85 : decode mX6_coupling.2.1 85 = .ok (.iconst 0, 1) := by decide +kernel
theorem dX6_coupling_86 : decode mX6_coupling.2.1 86 = .ok (.iload_n 2, 1) := by decide +kernel
theorem dX6_coupling_87 : decode mX6_coupling.2.1 87 = .ok (.iload_n 3, 1) := by decide +kernel
theorem dX6_coupling_88 : decode mX6_coupling.2.1 88 = .ok (.invokevirtual 123, 3) := by decide +kernel
theorem dX6_coupling_91 : decode mX6_coupling.2.1 91 = .ok (.aload_n 0, 1) := by decide +kernel
theorem dX6_coupling_92 : decode mX6_coupling.2.1 92 = .ok (.invokevirtual 120, 3) := by decide +kernel
theorem dX6_coupling_95 : decode mX6_coupling.2.1 95 = .ok (.return_, 1) := by decide +kernel
theorem okX6_coupling_120 : gOkV mX6_coupling mX6_expectSign 120 0 := ⟨List.forall_mem_cons.mpr ⟨(gm 645 (by decide +kernel) rfl), List.forall_mem_cons.mpr ⟨(gm 642 (by decide +kernel) rfl), List.forall_mem_cons.mpr ⟨(gm 644 (by decide +kernel) rfl), List.forall_mem_cons.mpr ⟨(gm 11 (by decide +kernel) rfl), List.forall_mem_cons.mpr ⟨(gm 108 (by decide +kernel) rfl), fun _ h => absurd h List.not_mem_nil⟩⟩⟩⟩⟩, by decide +kernel, by decide +kernel, by decide +kernel⟩
theorem okX6_coupling_87 : gOkV mX6_coupling mX6_fail 87 1 := ⟨List.forall_mem_cons.mpr ⟨(gm 619 (by decide +kernel) rfl), List.forall_mem_cons.mpr ⟨(gm 616 (by decide +kernel) rfl), List.forall_mem_cons.mpr ⟨(gm 618 (by decide +kernel) rfl), List.forall_mem_cons.mpr ⟨(gm 7 (by decide +kernel) rfl), List.forall_mem_cons.mpr ⟨(gm 108 (by decide +kernel) rfl), fun _ h => absurd h List.not_mem_nil⟩⟩⟩⟩⟩, by decide +kernel, by decide +kernel, by decide +kernel⟩
theorem okX6_coupling_123 : gOkV mX6_coupling mX3_add 123 4 := ⟨List.forall_mem_cons.mpr ⟨(gm 649 (by decide +kernel) rfl), List.forall_mem_cons.mpr ⟨(gm 646 (by decide +kernel) rfl), List.forall_mem_cons.mpr ⟨(gm 647 (by decide +kernel) rfl), List.forall_mem_cons.mpr ⟨(gm 648 (by decide +kernel) rfl), List.forall_mem_cons.mpr ⟨(gm 109 (by decide +kernel) rfl), fun _ h => absurd h List.not_mem_nil⟩⟩⟩⟩⟩, by decide +kernel, by decide +kernel, by decide +kernel⟩
theorem okX6_coupling_127 : gOkV mX6_coupling mX6_knownName 127 1 := ⟨List.forall_mem_cons.mpr ⟨(gm 660 (by decide +kernel) rfl), List.forall_mem_cons.mpr ⟨(gm 657 (by decide +kernel) rfl), List.forall_mem_cons.mpr ⟨(gm 659 (by decide +kernel) rfl), List.forall_mem_cons.mpr ⟨(gm 13 (by decide +kernel) rfl), List.forall_mem_cons.mpr ⟨(gm 108 (by decide +kernel) rfl), fun _ h => absurd h List.not_mem_nil⟩⟩⟩⟩⟩, by decide +kernel, by decide +kernel, by decide +kernel⟩
theorem okX6_coupling_137 : gOkV mX6_coupling mX3_isFull 137 1 := ⟨List.forall_mem_cons.mpr ⟨(gm 635 (by decide +kernel) rfl), List.forall_mem_cons.mpr ⟨(gm 632 (by decide +kernel) rfl), List.forall_mem_cons.mpr ⟨(gm 633 (by decide +kernel) rfl), List.forall_mem_cons.mpr ⟨(gm 634 (by decide +kernel) rfl), List.forall_mem_cons.mpr ⟨(gm 109 (by decide +kernel) rfl), fun _ h => absurd h List.not_mem_nil⟩⟩⟩⟩⟩, by decide +kernel, by decide +kernel, by decide +kernel⟩
theorem okX6_coupling_150 : gOkV mX6_coupling mX3_firstOf 150 2 := ⟨List.forall_mem_cons.mpr ⟨(gm 680 (by decide +kernel) rfl), List.forall_mem_cons.mpr ⟨(gm 713 (by decide +kernel) rfl), List.forall_mem_cons.mpr ⟨(gm 678 (by decide +kernel) rfl), List.forall_mem_cons.mpr ⟨(gm 679 (by decide +kernel) rfl), List.forall_mem_cons.mpr ⟨(gm 109 (by decide +kernel) rfl), fun _ h => absurd h List.not_mem_nil⟩⟩⟩⟩⟩, by decide +kernel, by decide +kernel, by decide +kernel⟩
def fX6_coupling_91 (p1 : Int32) (σ : gS) : Option (Unit × gS) :=
  bd (fX6_expectSign σ) fun _ σ1 =>
  some ((), σ1)
set_option maxHeartbeats 4000000 in
set_option maxRecDepth 100000 in
theorem pX6_coupling_91 {E : gE} {p1 : Int32} {r : Unit} {σ' : gS} {σ : gS} (h : fX6_coupling_91 p1 σ = some (r, σ')) : gG E mX6_coupling 91 [(0, .ref 1)] [] σ (none) σ' := by
  unfold fX6_coupling_91 at h
  refine g_aload_n dX6_coupling_91 rfl 0 rfl ?_
  obtain ⟨_, σ1, y2, h⟩ := bd_some h
  refine g_callVv (as := []) (st := []) (zX6_expectSign y2) dX6_coupling_92 gi_1 rfl okX6_coupling_120 (Nat.le_of_ble_eq_true rfl) ?_
  obtain ⟨rfl, rfl⟩ := so_inj h
  exact g_vret dX6_coupling_95 rfl
def fX6_coupling_71 (p1 : Int32) (σ : gS) : Option (Unit × gS) :=
  bd (fX6_fail 7 σ) fun _ σ1 =>
  fX6_coupling_91 p1 σ1
set_option maxHeartbeats 4000000 in
set_option maxRecDepth 100000 in
theorem pX6_coupling_71 {E : gE} {p1 : Int32} {r : Unit} {σ' : gS} {σ : gS} (h : fX6_coupling_71 p1 σ = some (r, σ')) : gG E mX6_coupling 71 [(0, .ref 1)] [] σ (none) σ' := by
  unfold fX6_coupling_71 at h
  refine g_aload_n dX6_coupling_71 rfl 0 rfl ?_
  refine g_bipush (v := 7) dX6_coupling_72 (by decide) ?_
  obtain ⟨_, σ1, y2, h⟩ := bd_some h
  refine g_callVv (as := [.int 7]) (st := []) (zX6_fail y2) dX6_coupling_74 gi_1 rfl okX6_coupling_87 (Nat.le_of_ble_eq_true rfl) ?_
  refine g_goto (t := 91) dX6_coupling_77 (by decide) ?_
  exact pX6_coupling_91 h
def fX6_coupling_80 (p1 : Int32) (v2 : Int32) (v3 : Int32) (σ : gS) : Option (Unit × gS) :=
  bnd (σ.2.2 1 3) fun x1 =>
  gg (x1 = 4 ∨ x1 = 16) (
  bd (fX3_add x1 p1 0 v2 v3 σ) fun _ σ3 =>
  fX6_coupling_91 p1 σ3)
set_option maxHeartbeats 4000000 in
set_option maxRecDepth 100000 in
theorem pX6_coupling_80 {E : gE} {p1 : Int32} {r : Unit} {σ' : gS} {v2 : Int32} {v3 : Int32} {σ : gS} (h : fX6_coupling_80 p1 v2 v3 σ = some (r, σ')) : gG E mX6_coupling 80 [(0, .ref 1), (1, .int p1), (2, .int v2), (3, .int v3)] [] σ (none) σ' := by
  unfold fX6_coupling_80 at h
  refine g_aload_n dX6_coupling_80 rfl 0 rfl ?_
  refine g_getR dX6_coupling_81 gi_1 rfl fl_RX6_22 ?_
  obtain ⟨x1, ex1, h⟩ := bnd_nm h
  refine g_topr ex1 ?_
  obtain ⟨g2, h⟩ := gg_some h
  refine g_iload_n dX6_coupling_84 rfl 1 rfl ?_
  refine g_iconst (v := 0) dX6_coupling_85 (by decide) ?_
  refine g_iload_n dX6_coupling_86 rfl 2 rfl ?_
  refine g_iload_n dX6_coupling_87 rfl 3 rfl ?_
  obtain ⟨_, σ3, y4, h⟩ := bd_some h
  refine g_callVv (as := [.int p1, .int 0, .int v2, .int v3]) (st := []) (zX3_add g2 y4) dX6_coupling_88 (gi_lk g2) rfl okX6_coupling_123 (Nat.le_of_ble_eq_true rfl) ?_
  refine g_sub [0] rfl ?_
  exact pX6_coupling_91 h
def fX6_coupling (p1 : Int32) (σ : gS) : Option (Unit × gS) :=
  bd (fX6_knownName 2 σ) fun x1 σ2 =>
  bd (fX6_knownName 2 σ2) fun x4 σ5 =>
  if (σ5.1 1 8) = 0 then
    bnd (σ5.2.2 1 3) fun x8 =>
    gg (x8 = 4 ∨ x8 = 16) (
    bd (fX3_isFull x8 3 σ5) fun x10 σ11 =>
    if x10 = 0 then
      if x1 = x4 then
        fX6_coupling_71 p1 σ11
      else
        if p1 = 4 then
          bnd (σ11.2.2 1 3) fun x16 =>
          gg (x16 = 4 ∨ x16 = 16) (
          bd (fX3_firstOf x16 2 x1 σ11) fun x18 σ19 =>
          bnd (σ19.2.2 1 3) fun x21 =>
          gg (x21 = 4 ∨ x21 = 16) (
          bd (fX3_firstOf x21 2 x4 σ19) fun x23 σ24 =>
          if x18 = x23 then
            fX6_coupling_71 p1 σ24
          else
            fX6_coupling_80 p1 x1 x4 σ24))
        else
          fX6_coupling_80 p1 x1 x4 σ11
    else
      bd (fX6_fail 6 σ11) fun _ σ27 =>
      fX6_coupling_91 p1 σ27)
  else
    some ((), σ5)
set_option maxHeartbeats 4000000 in
set_option maxRecDepth 100000 in
theorem pX6_coupling {E : gE} {p1 : Int32} {r : Unit} {σ' : gS} {σ : gS} (h : fX6_coupling p1 σ = some (r, σ')) : gG E mX6_coupling 0 [(0, .ref 1), (1, .int p1)] [] σ (none) σ' := by
  unfold fX6_coupling at h
  refine g_aload_n dX6_coupling_0 rfl 0 rfl ?_
  refine g_iconst (v := 2) dX6_coupling_1 (by decide) ?_
  obtain ⟨x1, σ2, y3, h⟩ := bd_some h
  refine g_callVr (as := [.int 2]) (st := []) (zX6_knownName y3) dX6_coupling_2 gi_1 rfl okX6_coupling_127 (Nat.le_of_ble_eq_true rfl) ?_
  refine g_istore_n (lv' := [(2, .int x1), (0, .ref 1), (1, .int p1)]) dX6_coupling_5 rfl (Nat.le_of_ble_eq_true rfl) rfl ?_
  refine g_aload_n dX6_coupling_6 rfl 1 rfl ?_
  refine g_iconst (v := 2) dX6_coupling_7 (by decide) ?_
  obtain ⟨x4, σ5, y6, h⟩ := bd_some h
  refine g_callVr (as := [.int 2]) (st := []) (zX6_knownName y6) dX6_coupling_8 gi_1 rfl okX6_coupling_127 (Nat.le_of_ble_eq_true rfl) ?_
  refine g_istore_n (lv' := [(3, .int x4), (2, .int x1), (0, .ref 1), (1, .int p1)]) dX6_coupling_11 rfl (Nat.le_of_ble_eq_true rfl) rfl ?_
  refine g_aload_n dX6_coupling_12 rfl 2 rfl ?_
  refine g_getI dX6_coupling_13 gi_1 rfl fl_RX6_56 ?_
  refine g_if_eq (t := 20) dX6_coupling_16 (by decide) (fun c7 => ?_) (fun c7 => ?_)
  · replace h := if_t h c7
    refine g_aload_n dX6_coupling_20 rfl 2 rfl ?_
    refine g_getR dX6_coupling_21 gi_1 rfl fl_RX6_22 ?_
    obtain ⟨x8, ex8, h⟩ := bnd_nm h
    refine g_topr ex8 ?_
    obtain ⟨g9, h⟩ := gg_some h
    refine g_iconst (v := 3) dX6_coupling_24 (by decide) ?_
    obtain ⟨x10, σ11, y12, h⟩ := bd_some h
    refine g_callVr (as := [.int 3]) (st := []) (zX3_isFull g9 y12) dX6_coupling_25 (gi_lk g9) rfl okX6_coupling_137 (Nat.le_of_ble_eq_true rfl) ?_
    refine g_if_eq (t := 40) dX6_coupling_28 (by decide) (fun c13 => ?_) (fun c13 => ?_)
    · replace h := if_t h c13
      refine g_iload_n dX6_coupling_40 rfl 1 rfl ?_
      refine g_iload_n dX6_coupling_41 rfl 0 rfl ?_
      refine g_icmp_eq (t := 71) dX6_coupling_42 (by decide) (fun c14 => ?_) (fun c14 => ?_)
      · replace h := if_t h c14
        refine g_sub [2] rfl ?_
        exact pX6_coupling_71 h
      · replace h := if_f h c14
        refine g_iload_n dX6_coupling_45 rfl 3 rfl ?_
        refine g_iconst (v := 4) dX6_coupling_46 (by decide) ?_
        refine g_icmp_ne (t := 80) dX6_coupling_47 (by decide) (fun c15 => ?_) (fun c15 => ?_)
        · replace h := if_f h c15
          refine g_sub [2, 3, 1, 0] rfl ?_
          exact pX6_coupling_80 h
        · replace h := if_t h c15
          refine g_aload_n dX6_coupling_50 rfl 2 rfl ?_
          refine g_getR dX6_coupling_51 gi_1 rfl fl_RX6_22 ?_
          obtain ⟨x16, ex16, h⟩ := bnd_nm h
          refine g_topr ex16 ?_
          obtain ⟨g17, h⟩ := gg_some h
          refine g_iconst (v := 2) dX6_coupling_54 (by decide) ?_
          refine g_iload_n dX6_coupling_55 rfl 1 rfl ?_
          obtain ⟨x18, σ19, y20, h⟩ := bd_some h
          refine g_callVr (as := [.int 2, .int x1]) (st := []) (zX3_firstOf g17 y20) dX6_coupling_56 (gi_lk g17) rfl okX6_coupling_150 (Nat.le_of_ble_eq_true rfl) ?_
          refine g_aload_n dX6_coupling_59 rfl 2 rfl ?_
          refine g_getR dX6_coupling_60 gi_1 rfl fl_RX6_22 ?_
          obtain ⟨x21, ex21, h⟩ := bnd_nm h
          refine g_topr ex21 ?_
          obtain ⟨g22, h⟩ := gg_some h
          refine g_iconst (v := 2) dX6_coupling_63 (by decide) ?_
          refine g_iload_n dX6_coupling_64 rfl 0 rfl ?_
          obtain ⟨x23, σ24, y25, h⟩ := bd_some h
          refine g_callVr (as := [.int 2, .int x4]) (st := [.int x18]) (zX3_firstOf g22 y25) dX6_coupling_65 (gi_lk g22) rfl okX6_coupling_150 (Nat.le_of_ble_eq_true rfl) ?_
          refine g_icmp_ne (t := 80) dX6_coupling_68 (by decide) (fun c26 => ?_) (fun c26 => ?_)
          · replace h := if_f h c26
            refine g_sub [2, 3, 1, 0] rfl ?_
            exact pX6_coupling_80 h
          · replace h := if_t h c26
            refine g_sub [2] rfl ?_
            exact pX6_coupling_71 h
    · replace h := if_f h c13
      refine g_aload_n dX6_coupling_31 rfl 2 rfl ?_
      refine g_bipush (v := 6) dX6_coupling_32 (by decide) ?_
      obtain ⟨_, σ27, y28, h⟩ := bd_some h
      refine g_callVv (as := [.int 6]) (st := []) (zX6_fail y28) dX6_coupling_34 gi_1 rfl okX6_coupling_87 (Nat.le_of_ble_eq_true rfl) ?_
      refine g_goto (t := 91) dX6_coupling_37 (by decide) ?_
      refine g_sub [2] rfl ?_
      exact pX6_coupling_91 h
  · replace h := if_f h c7
    obtain ⟨rfl, rfl⟩ := so_inj h
    exact g_vret dX6_coupling_19 rfl
theorem zX6_coupling {E : gE} {p1 : Int32} {r : Unit} {σ σ' : gS} (h : fX6_coupling p1 σ = some (r, σ')) : gC E mX6_coupling [.ref 1, .int p1] σ (none) σ' :=
  gC_of (by decide +kernel) rfl (Nat.le_of_ble_eq_true rfl) (pX6_coupling h)

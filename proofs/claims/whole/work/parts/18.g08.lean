theorem fl_RX11_253 : gFl RX11 253 11 45 := ⟨RX11, TX11, 101, rfl, by decide, ux_11, Or.inl (gm 1273 (by decide +kernel) rfl)⟩
def mX11_want : gM := (yX11_want, cX11_want, RX11, 2, none, 1, 21)
theorem dX11_want_0 : decode mX11_want.2.1 0 = .ok (.aload_n 0, 1) := by decide +kernel
theorem dX11_want_1 : decode mX11_want.2.1 1 = .ok (.invokevirtual 282, 3) := by decide +kernel
theorem dX11_want_4 : decode mX11_want.2.1 4 = .ok (.ifCond .eq 28, 3) := by decide +kernel
theorem dX11_want_7 : decode mX11_want.2.1 7 = .ok (.aload_n 0, 1) := by decide +kernel
theorem dX11_want_8 : decode mX11_want.2.1 8 = .ok (.getfield 253, 3) := by decide +kernel
theorem dX11_want_11 : decode mX11_want.2.1 11 = .ok (.iload_n 1, 1) := by decide +kernel
theorem dX11_want_12 : decode mX11_want.2.1 12 = .ok (.if_icmp .eq 20, 3) := by decide +kernel
theorem dX11_want_15 : decode mX11_want.2.1 15 = .ok (.aload_n 0, 1) := by decide +kernel
theorem dX11_want_16 : decode mX11_want.2.1 16 = .ok (.aload_n 0, 1) := by decide +kernel
theorem dX11_want_17 : decode mX11_want.2.1 17 = .ok (.getfield 253, 3) := by decide +kernel
theorem dX11_want_20 : decode mX11_want.2.1 20 = .ok (.iconst 5, 1) := by decide +kernel
theorem dX11_want_21 : decode mX11_want.2.1 21 = .ok (.if_icmp .ne 7, 3) := by decide +kernel
theorem dX11_want_24 : decode mX11_want.2.1 24 = .ok (.iconst 1, 1) := by decide +kernel
theorem dX11_want_25 : decode mX11_want.2.1 25 = .ok (.goto 4, 3) := by decide +kernel
theorem dX11_want_28 : decode mX11_want.2.1 28 = .ok (.iconst 2, 1) := by decide +kernel
theorem dX11_want_29 : decode mX11_want.2.1 29 = .ok (.invokevirtual 285, 3) := by decide +kernel
theorem dX11_want_32 : decode mX11_want.2.1 32 = .ok (.return_, 1) := by decide +kernel
theorem okX11_want_285 : gOkV mX11_want mX11_bad 285 1 := ⟨List.forall_mem_cons.mpr ⟨(gm 1585 (by decide +kernel) rfl), List.forall_mem_cons.mpr ⟨(gm 1582 (by decide +kernel) rfl), List.forall_mem_cons.mpr ⟨(gm 1584 (by decide +kernel) rfl), List.forall_mem_cons.mpr ⟨(gm 63 (by decide +kernel) rfl), List.forall_mem_cons.mpr ⟨(gm 122 (by decide +kernel) rfl), fun _ h => absurd h List.not_mem_nil⟩⟩⟩⟩⟩, by decide +kernel, by decide +kernel, by decide +kernel⟩
theorem okX11_want_282 : gOkV mX11_want mX11_good 282 0 := ⟨List.forall_mem_cons.mpr ⟨(gm 1577 (by decide +kernel) rfl), List.forall_mem_cons.mpr ⟨(gm 1574 (by decide +kernel) rfl), List.forall_mem_cons.mpr ⟨(gm 1576 (by decide +kernel) rfl), List.forall_mem_cons.mpr ⟨(gm 61 (by decide +kernel) rfl), List.forall_mem_cons.mpr ⟨(gm 122 (by decide +kernel) rfl), fun _ h => absurd h List.not_mem_nil⟩⟩⟩⟩⟩, by decide +kernel, by decide +kernel, by decide +kernel⟩
def fX11_want_32 (p1 : Int32) (σ : gS) : Option (Unit × gS) :=
  some ((), σ)
set_option maxHeartbeats 4000000 in
set_option maxRecDepth 100000 in
theorem pX11_want_32 {E : gE} {p1 : Int32} {r : Unit} {σ' : gS} {σ : gS} (h : fX11_want_32 p1 σ = some (r, σ')) : gG E mX11_want 32 [] [] σ (none) σ' := by
  unfold fX11_want_32 at h
  obtain ⟨rfl, rfl⟩ := so_inj h
  exact g_vret dX11_want_32 rfl
def fX11_want_29 (p1 : Int32) (s1 : Int32) (σ : gS) : Option (Unit × gS) :=
  bd (fX11_bad s1 σ) fun _ σ1 =>
  fX11_want_32 p1 σ1
set_option maxHeartbeats 4000000 in
set_option maxRecDepth 100000 in
theorem pX11_want_29 {E : gE} {p1 : Int32} {r : Unit} {σ' : gS} {s1 : Int32} {σ : gS} (h : fX11_want_29 p1 s1 σ = some (r, σ')) : gG E mX11_want 29 [] [.int s1, .ref 168] σ (none) σ' := by
  unfold fX11_want_29 at h
  obtain ⟨_, σ1, y2, h⟩ := bd_some h
  refine g_callVv (as := [.int s1]) (st := []) (zX11_bad y2) dX11_want_29 gi_168 rfl okX11_want_285 (Nat.le_of_ble_eq_true rfl) ?_
  exact pX11_want_32 h
def fX11_want (p1 : Int32) (σ : gS) : Option (Unit × gS) :=
  bd (fX11_good σ) fun x1 σ2 =>
  if x1 = 0 then
    fX11_want_32 p1 σ2
  else
    if (σ2.1 168 45) = p1 then
      fX11_want_32 p1 σ2
    else
      if (σ2.1 168 45) = 5 then
        fX11_want_29 p1 1 σ2
      else
        fX11_want_29 p1 2 σ2
set_option maxHeartbeats 4000000 in
set_option maxRecDepth 100000 in
theorem pX11_want {E : gE} {p1 : Int32} {r : Unit} {σ' : gS} {σ : gS} (h : fX11_want p1 σ = some (r, σ')) : gG E mX11_want 0 [(0, .ref 168), (1, .int p1)] [] σ (none) σ' := by
  unfold fX11_want at h
  refine g_aload_n dX11_want_0 rfl 0 rfl ?_
  obtain ⟨x1, σ2, y3, h⟩ := bd_some h
  refine g_callVr (as := []) (st := []) (zX11_good y3) dX11_want_1 gi_168 rfl okX11_want_282 (Nat.le_of_ble_eq_true rfl) ?_
  refine g_if_eq (t := 32) dX11_want_4 (by decide) (fun c4 => ?_) (fun c4 => ?_)
  · replace h := if_t h c4
    refine g_sub [] rfl ?_
    exact pX11_want_32 h
  · replace h := if_f h c4
    refine g_aload_n dX11_want_7 rfl 0 rfl ?_
    refine g_getI dX11_want_8 gi_168 rfl fl_RX11_253 ?_
    refine g_iload_n dX11_want_11 rfl 1 rfl ?_
    refine g_icmp_eq (t := 32) dX11_want_12 (by decide) (fun c5 => ?_) (fun c5 => ?_)
    · replace h := if_t h c5
      refine g_sub [] rfl ?_
      exact pX11_want_32 h
    · replace h := if_f h c5
      refine g_aload_n dX11_want_15 rfl 0 rfl ?_
      refine g_aload_n dX11_want_16 rfl 0 rfl ?_
      refine g_getI dX11_want_17 gi_168 rfl fl_RX11_253 ?_
      refine g_iconst (v := 5) dX11_want_20 (by decide) ?_
      refine g_icmp_ne (t := 28) dX11_want_21 (by decide) (fun c6 => ?_) (fun c6 => ?_)
      · replace h := if_f h c6
        refine g_iconst (v := 2) dX11_want_28 (by decide) ?_
        refine g_sub [] rfl ?_
        exact pX11_want_29 h
      · replace h := if_t h c6
        refine g_iconst (v := 1) dX11_want_24 (by decide) ?_
        refine g_goto (t := 29) dX11_want_25 (by decide) ?_
        refine g_sub [] rfl ?_
        exact pX11_want_29 h
theorem zX11_want {E : gE} {p1 : Int32} {r : Unit} {σ σ' : gS} (h : fX11_want p1 σ = some (r, σ')) : gC E mX11_want [.ref 168, .int p1] σ (none) σ' :=
  gC_of (by decide +kernel) rfl (Nat.le_of_ble_eq_true rfl) (pX11_want h)
def mX11_wantWord : gM := (yX11_wantWord, cX11_wantWord, RX11, 2, none, 3, 72)
theorem dX11_wantWord_0 : decode mX11_wantWord.2.1 0 = .ok (.aload_n 0, 1) := by decide +kernel
theorem dX11_wantWord_1 : decode mX11_wantWord.2.1 1 = .ok (.iconst 1, 1) := by decide +kernel
theorem dX11_wantWord_2 : decode mX11_wantWord.2.1 2 = .ok (.invokevirtual 289, 3) := by decide +kernel
theorem dX11_wantWord_5 : decode mX11_wantWord.2.1 5 = .ok (.aload_n 0, 1) := by decide +kernel
theorem dX11_wantWord_6 : decode mX11_wantWord.2.1 6 = .ok (.invokevirtual 282, 3) := by decide +kernel
theorem dX11_wantWord_9 : decode mX11_wantWord.2.1 9 = .ok (.ifCond .eq 16, 3) := by decide +kernel
theorem dX11_wantWord_12 : decode mX11_wantWord.2.1 12 = .ok (.aload_n 0, 1) := by decide +kernel
theorem dX11_wantWord_13 : decode mX11_wantWord.2.1 13 = .ok (.getfield 268, 3) := by decide +kernel
theorem dX11_wantWord_16 : decode mX11_wantWord.2.1 16 = .ok (.iload_n 1, 1) := by decide +kernel
theorem dX11_wantWord_17 : decode mX11_wantWord.2.1 17 = .ok (.if_icmp .eq 8, 3) := by decide +kernel
theorem dX11_wantWord_20 : decode mX11_wantWord.2.1 20 = .ok (.aload_n 0, 1) := by decide +kernel
theorem dX11_wantWord_21 : decode mX11_wantWord.2.1 21 = .ok (.iconst 2, 1) := by decide +kernel
theorem dX11_wantWord_22 : decode mX11_wantWord.2.1 22 = .ok (.invokevirtual 285, 3) := by decide +kernel
theorem dX11_wantWord_25 : decode mX11_wantWord.2.1 25 = .ok (.aload_n 0, 1) := by decide +kernel
theorem dX11_wantWord_26 : decode mX11_wantWord.2.1 26 = .ok (.invokevirtual 282, 3) := by decide +kernel
theorem dX11_wantWord_29 : decode mX11_wantWord.2.1 29 = .ok (.ifCond .eq 7, 3) := by decide +kernel
theorem dX11_wantWord_32 : decode mX11_wantWord.2.1 32 = .ok (.aload_n 0, 1) := by decide +kernel
theorem dX11_wantWord_33 : decode mX11_wantWord.2.1 33 = .ok (.invokevirtual 292, 3) := by decide +kernel
theorem dX11_wantWord_36 : decode mX11_wantWord.2.1 36 = .ok (.return_, 1) := by decide +kernel
theorem okX11_wantWord_282 : gOkV mX11_wantWord mX11_good 282 0 := ⟨List.forall_mem_cons.mpr ⟨(gm 1577 (by decide +kernel) rfl), List.forall_mem_cons.mpr ⟨(gm 1574 (by decide +kernel) rfl), List.forall_mem_cons.mpr ⟨(gm 1576 (by decide +kernel) rfl), List.forall_mem_cons.mpr ⟨(gm 61 (by decide +kernel) rfl), List.forall_mem_cons.mpr ⟨(gm 122 (by decide +kernel) rfl), fun _ h => absurd h List.not_mem_nil⟩⟩⟩⟩⟩, by decide +kernel, by decide +kernel, by decide +kernel⟩
theorem okX11_wantWord_292 : gOkV mX11_wantWord mX11_next 292 0 := ⟨List.forall_mem_cons.mpr ⟨(gm 1550 (by decide +kernel) rfl), List.forall_mem_cons.mpr ⟨(gm 1547 (by decide +kernel) rfl), List.forall_mem_cons.mpr ⟨(gm 1549 (by decide +kernel) rfl), List.forall_mem_cons.mpr ⟨(gm 57 (by decide +kernel) rfl), List.forall_mem_cons.mpr ⟨(gm 122 (by decide +kernel) rfl), fun _ h => absurd h List.not_mem_nil⟩⟩⟩⟩⟩, by decide +kernel, by decide +kernel, by decide +kernel⟩
theorem okX11_wantWord_289 : gOkV mX11_wantWord mX11_want 289 1 := ⟨List.forall_mem_cons.mpr ⟨(gm 1581 (by decide +kernel) rfl), List.forall_mem_cons.mpr ⟨(gm 1578 (by decide +kernel) rfl), List.forall_mem_cons.mpr ⟨(gm 1580 (by decide +kernel) rfl), List.forall_mem_cons.mpr ⟨(gm 62 (by decide +kernel) rfl), List.forall_mem_cons.mpr ⟨(gm 122 (by decide +kernel) rfl), fun _ h => absurd h List.not_mem_nil⟩⟩⟩⟩⟩, by decide +kernel, by decide +kernel, by decide +kernel⟩
theorem okX11_wantWord_285 : gOkV mX11_wantWord mX11_bad 285 1 := ⟨List.forall_mem_cons.mpr ⟨(gm 1585 (by decide +kernel) rfl), List.forall_mem_cons.mpr ⟨(gm 1582 (by decide +kernel) rfl), List.forall_mem_cons.mpr ⟨(gm 1584 (by decide +kernel) rfl), List.forall_mem_cons.mpr ⟨(gm 63 (by decide +kernel) rfl), List.forall_mem_cons.mpr ⟨(gm 122 (by decide +kernel) rfl), fun _ h => absurd h List.not_mem_nil⟩⟩⟩⟩⟩, by decide +kernel, by decide +kernel, by decide +kernel⟩
def fX11_wantWord_36 (p1 : Int32) (σ : gS) : Option (Unit × gS) :=
  some ((), σ)
set_option maxHeartbeats 4000000 in
set_option maxRecDepth 100000 in
theorem pX11_wantWord_36 {E : gE} {p1 : Int32} {r : Unit} {σ' : gS} {σ : gS} (h : fX11_wantWord_36 p1 σ = some (r, σ')) : gG E mX11_wantWord 36 [] [] σ (none) σ' := by
  unfold fX11_wantWord_36 at h
  obtain ⟨rfl, rfl⟩ := so_inj h
  exact g_vret dX11_wantWord_36 rfl
def fX11_wantWord_25 (p1 : Int32) (σ : gS) : Option (Unit × gS) :=
  bd (fX11_good σ) fun x1 σ2 =>
  if x1 = 0 then
    fX11_wantWord_36 p1 σ2
  else
    bd (fX11_next σ2) fun _ σ5 =>
    fX11_wantWord_36 p1 σ5
set_option maxHeartbeats 4000000 in
set_option maxRecDepth 100000 in
theorem pX11_wantWord_25 {E : gE} {p1 : Int32} {r : Unit} {σ' : gS} {σ : gS} (h : fX11_wantWord_25 p1 σ = some (r, σ')) : gG E mX11_wantWord 25 [(0, .ref 168)] [] σ (none) σ' := by
  unfold fX11_wantWord_25 at h
  refine g_aload_n dX11_wantWord_25 rfl 0 rfl ?_
  obtain ⟨x1, σ2, y3, h⟩ := bd_some h
  refine g_callVr (as := []) (st := []) (zX11_good y3) dX11_wantWord_26 gi_168 rfl okX11_wantWord_282 (Nat.le_of_ble_eq_true rfl) ?_
  refine g_if_eq (t := 36) dX11_wantWord_29 (by decide) (fun c4 => ?_) (fun c4 => ?_)
  · replace h := if_t h c4
    refine g_sub [] rfl ?_
    exact pX11_wantWord_36 h
  · replace h := if_f h c4
    refine g_aload_n dX11_wantWord_32 rfl 0 rfl ?_
    obtain ⟨_, σ5, y6, h⟩ := bd_some h
    refine g_callVv (as := []) (st := []) (zX11_next y6) dX11_wantWord_33 gi_168 rfl okX11_wantWord_292 (Nat.le_of_ble_eq_true rfl) ?_
    refine g_sub [] rfl ?_
    exact pX11_wantWord_36 h
def fX11_wantWord (p1 : Int32) (σ : gS) : Option (Unit × gS) :=
  bd (fX11_want 1 σ) fun _ σ1 =>
  bd (fX11_good σ1) fun x3 σ4 =>
  if x3 = 0 then
    fX11_wantWord_25 p1 σ4
  else
    if (σ4.1 168 51) = p1 then
      fX11_wantWord_25 p1 σ4
    else
      bd (fX11_bad 2 σ4) fun _ σ8 =>
      fX11_wantWord_25 p1 σ8
set_option maxHeartbeats 4000000 in
set_option maxRecDepth 100000 in
theorem pX11_wantWord {E : gE} {p1 : Int32} {r : Unit} {σ' : gS} {σ : gS} (h : fX11_wantWord p1 σ = some (r, σ')) : gG E mX11_wantWord 0 [(0, .ref 168), (1, .int p1)] [] σ (none) σ' := by
  unfold fX11_wantWord at h
  refine g_aload_n dX11_wantWord_0 rfl 0 rfl ?_
  refine g_iconst (v := 1) dX11_wantWord_1 (by decide) ?_
  obtain ⟨_, σ1, y2, h⟩ := bd_some h
  refine g_callVv (as := [.int 1]) (st := []) (zX11_want y2) dX11_wantWord_2 gi_168 rfl okX11_wantWord_289 (Nat.le_of_ble_eq_true rfl) ?_
  refine g_aload_n dX11_wantWord_5 rfl 0 rfl ?_
  obtain ⟨x3, σ4, y5, h⟩ := bd_some h
  refine g_callVr (as := []) (st := []) (zX11_good y5) dX11_wantWord_6 gi_168 rfl okX11_wantWord_282 (Nat.le_of_ble_eq_true rfl) ?_
  refine g_if_eq (t := 25) dX11_wantWord_9 (by decide) (fun c6 => ?_) (fun c6 => ?_)
  · replace h := if_t h c6
    refine g_sub [0] rfl ?_
    exact pX11_wantWord_25 h
  · replace h := if_f h c6
    refine g_aload_n dX11_wantWord_12 rfl 0 rfl ?_
    refine g_getI dX11_wantWord_13 gi_168 rfl fl_RX11_268 ?_
    refine g_iload_n dX11_wantWord_16 rfl 1 rfl ?_
    refine g_icmp_eq (t := 25) dX11_wantWord_17 (by decide) (fun c7 => ?_) (fun c7 => ?_)
    · replace h := if_t h c7
      refine g_sub [0] rfl ?_
      exact pX11_wantWord_25 h
    · replace h := if_f h c7
      refine g_aload_n dX11_wantWord_20 rfl 0 rfl ?_
      refine g_iconst (v := 2) dX11_wantWord_21 (by decide) ?_
      obtain ⟨_, σ8, y9, h⟩ := bd_some h
      refine g_callVv (as := [.int 2]) (st := []) (zX11_bad y9) dX11_wantWord_22 gi_168 rfl okX11_wantWord_285 (Nat.le_of_ble_eq_true rfl) ?_
      refine g_sub [0] rfl ?_
      exact pX11_wantWord_25 h
theorem zX11_wantWord {E : gE} {p1 : Int32} {r : Unit} {σ σ' : gS} (h : fX11_wantWord p1 σ = some (r, σ')) : gC E mX11_wantWord [.ref 168, .int p1] σ (none) σ' :=
  gC_of (by decide +kernel) rfl (Nat.le_of_ble_eq_true rfl) (pX11_wantWord h)
theorem fl_RX11_295 : gFl RX11 295 11 21 := ⟨RX11, TX11, 101, rfl, by decide, ux_11, Or.inl (gm 1249 (by decide +kernel) rfl)⟩
theorem fl_RX11_61 : gFl RX11 61 11 22 := ⟨RX11, TX11, 101, rfl, by decide, ux_11, Or.inl (gm 1250 (by decide +kernel) rfl)⟩
def mX11_jointOf : gM := (yX11_jointOf, cX11_jointOf, RX11, 2, (some .int), 0, 0)
theorem dX11_jointOf_0 : decode mX11_jointOf.2.1 0 = .ok (.iconst 0, 1) := by decide +kernel
theorem dX11_jointOf_1 : decode mX11_jointOf.2.1 1 = .ok (.istore_n 1, 1) := by decide +kernel
theorem dX11_jointOf_2 : decode mX11_jointOf.2.1 2 = .ok (.iload_n 1, 1) := by decide +kernel
theorem dX11_jointOf_3 : decode mX11_jointOf.2.1 3 = .ok (.aload_n 0, 1) := by decide +kernel
theorem dX11_jointOf_4 : decode mX11_jointOf.2.1 4 = .ok (.getfield 295, 3) := by decide +kernel
theorem dX11_jointOf_7 : decode mX11_jointOf.2.1 7 = .ok (.if_icmp .ge 25, 3) := by decide +kernel
theorem dX11_jointOf_10 : decode mX11_jointOf.2.1 10 = .ok (.aload_n 0, 1) := by decide +kernel
theorem dX11_jointOf_11 : decode mX11_jointOf.2.1 11 = .ok (.getfield 61, 3) := by decide +kernel
theorem dX11_jointOf_14 : decode mX11_jointOf.2.1 14 = .ok (.iload_n 1, 1) := by decide +kernel
theorem dX11_jointOf_15 : decode mX11_jointOf.2.1 15 = .ok (.laload, 1) := by decide +kernel
theorem dX11_jointOf_16 : decode mX11_jointOf.2.1 16 = .ok (.aload_n 0, 1) := by decide +kernel
theorem dX11_jointOf_17 : decode mX11_jointOf.2.1 17 = .ok (.getfield 260, 3) := by decide +kernel
theorem dX11_jointOf_20 : decode mX11_jointOf.2.1 20 = .ok (.lcmp, 1) := by decide +kernel
theorem dX11_jointOf_21 : decode mX11_jointOf.2.1 21 = .ok (.ifCond .ne 5, 3) := by decide +kernel
theorem dX11_jointOf_24 : decode mX11_jointOf.2.1 24 = .ok (.iload_n 1, 1) := by decide +kernel
theorem dX11_jointOf_25 : decode mX11_jointOf.2.1 25 = .ok (.ireturn, 1) := by decide +kernel
theorem dX11_jointOf_26 : decode mX11_jointOf.2.1 26 = .ok (.iinc 1 1, 3) := by decide +kernel
theorem dX11_jointOf_29 : decode mX11_jointOf.2.1 29 = .ok (.goto (-27), 3) := by decide +kernel
theorem dX11_jointOf_32 : decode mX11_jointOf.2.1 32 = .ok (.iconst (-1), 1) := by decide +kernel
theorem dX11_jointOf_33 : decode mX11_jointOf.2.1 33 = .ok (.ireturn, 1) := by decide +kernel
def fX11_jointOf_2 : Nat → Int32 → gS → Option (Int32 × gS)
  | 0, _, _ => none
  | n + 1, v1, σ => if (σ.1 168 21) ≤ v1 then
    some ((-1), σ)
  else
    gg (¬ (v1 < 0 ∨ 24 ≤ v1.toNatClampNeg)) (
    if (lg_cmp (σ.2.1 183 v1.toNatClampNeg) (σ.2.1 168 47)) = 0 then
      some (v1, σ)
    else
      bnd (v1 + 1) fun x4 =>
      fX11_jointOf_2 n x4 σ)
set_option maxHeartbeats 4000000 in
set_option maxRecDepth 100000 in
theorem pX11_jointOf_2 {E : gE} {r : Int32} {σ' : gS} : ∀ (n : Nat) (v1 : Int32) (σ : gS), fX11_jointOf_2 n v1 σ = some (r, σ') → gG E mX11_jointOf 2 [(0, .ref 168), (1, .int v1)] [] σ (some (.int r)) σ' := by
  intro n
  induction n with
  | zero => intro v1 σ h; exact absurd (show none = some (r, σ') from h) (by intro q; cases q)
  | succ n ih =>
  intro v1 σ h
  unfold fX11_jointOf_2 at h
  refine g_iload_n dX11_jointOf_2 rfl 1 rfl ?_
  refine g_aload_n dX11_jointOf_3 rfl 0 rfl ?_
  refine g_getI dX11_jointOf_4 gi_168 rfl fl_RX11_295 ?_
  refine g_icmp_ge (t := 32) dX11_jointOf_7 (by decide) (fun c1 => ?_) (fun c1 => ?_)
  · replace h := if_t h c1
    refine g_iconst (v := (-1)) dX11_jointOf_32 (by decide) ?_
    obtain ⟨rfl, rfl⟩ := so_inj h
    exact g_iret dX11_jointOf_33 rfl
  · replace h := if_f h c1
    refine g_aload_n dX11_jointOf_10 rfl 0 rfl ?_
    refine g_getC (n := 183) dX11_jointOf_11 gi_168 rfl fl_RX11_61 ?_
    refine g_iload_n dX11_jointOf_14 rfl 1 rfl ?_
    obtain ⟨g2, h⟩ := gg_some h
    refine g_lald dX11_jointOf_15 gi_183 g2 ?_
    refine g_aload_n dX11_jointOf_16 rfl 0 rfl ?_
    refine g_getJ dX11_jointOf_17 gi_168 rfl fl_RX11_260 ?_
    refine g_lcmp dX11_jointOf_20 ?_
    refine g_if_ne (t := 26) dX11_jointOf_21 (by decide) (fun c3 => ?_) (fun c3 => ?_)
    · replace h := if_f h c3
      obtain ⟨x4, ex4, h⟩ := bnd_nm h
      refine g_iinc (j := 1) (v := x4) (lv' := [(1, .int x4), (0, .ref 168)]) dX11_jointOf_26 rfl (by rw [ex4]; rfl) (Nat.le_of_ble_eq_true rfl) rfl ?_
      refine g_goto (t := 2) dX11_jointOf_29 (by decide) ?_
      refine g_sub [1, 0] rfl ?_
      exact ih x4 σ h
    · replace h := if_t h c3
      refine g_iload_n dX11_jointOf_24 rfl 1 rfl ?_
      obtain ⟨rfl, rfl⟩ := so_inj h
      exact g_iret dX11_jointOf_25 rfl
def fX11_jointOf (σ : gS) : Option (Int32 × gS) :=
  fX11_jointOf_2 2000 0 σ
set_option maxHeartbeats 4000000 in
set_option maxRecDepth 100000 in
theorem pX11_jointOf {E : gE} {r : Int32} {σ' : gS} {σ : gS} (h : fX11_jointOf σ = some (r, σ')) : gG E mX11_jointOf 0 [(0, .ref 168)] [] σ (some (.int r)) σ' := by
  unfold fX11_jointOf at h
  refine g_iconst (v := 0) dX11_jointOf_0 (by decide) ?_
  refine g_istore_n (lv' := [(1, .int 0), (0, .ref 168)]) dX11_jointOf_1 rfl (Nat.le_of_ble_eq_true rfl) rfl ?_
  refine g_sub [1, 0] rfl ?_
  exact pX11_jointOf_2 2000 0 σ h
theorem zX11_jointOf {E : gE} {r : Int32} {σ σ' : gS} (h : fX11_jointOf σ = some (r, σ')) : gC E mX11_jointOf [.ref 168] σ (some (.int r)) σ' :=
  gC_of (by decide +kernel) rfl (Nat.le_of_ble_eq_true rfl) (pX11_jointOf h)
theorem fl_RX11_298 : gFl RX11 298 11 26 := ⟨RX11, TX11, 101, rfl, by decide, ux_11, Or.inl (gm 1254 (by decide +kernel) rfl)⟩
theorem fl_RX11_73 : gFl RX11 73 11 27 := ⟨RX11, TX11, 101, rfl, by decide, ux_11, Or.inl (gm 1255 (by decide +kernel) rfl)⟩
def mX11_wheelOf : gM := (yX11_wheelOf, cX11_wheelOf, RX11, 2, (some .int), 0, 0)
theorem dX11_wheelOf_0 : decode mX11_wheelOf.2.1 0 = .ok (.iconst 0, 1) := by decide +kernel
theorem dX11_wheelOf_1 : decode mX11_wheelOf.2.1 1 = .ok (.istore_n 1, 1) := by decide +kernel
theorem dX11_wheelOf_2 : decode mX11_wheelOf.2.1 2 = .ok (.iload_n 1, 1) := by decide +kernel
theorem dX11_wheelOf_3 : decode mX11_wheelOf.2.1 3 = .ok (.aload_n 0, 1) := by decide +kernel
theorem dX11_wheelOf_4 : decode mX11_wheelOf.2.1 4 = .ok (.getfield 298, 3) := by decide +kernel
theorem dX11_wheelOf_7 : decode mX11_wheelOf.2.1 7 = .ok (.if_icmp .ge 25, 3) := by decide +kernel
theorem dX11_wheelOf_10 : decode mX11_wheelOf.2.1 10 = .ok (.aload_n 0, 1) := by decide +kernel
theorem dX11_wheelOf_11 : decode mX11_wheelOf.2.1 11 = .ok (.getfield 73, 3) := by decide +kernel
theorem dX11_wheelOf_14 : decode mX11_wheelOf.2.1 14 = .ok (.iload_n 1, 1) := by decide +kernel
theorem dX11_wheelOf_15 : decode mX11_wheelOf.2.1 15 = .ok (.laload, 1) := by decide +kernel
theorem dX11_wheelOf_16 : decode mX11_wheelOf.2.1 16 = .ok (.aload_n 0, 1) := by decide +kernel
theorem dX11_wheelOf_17 : decode mX11_wheelOf.2.1 17 = .ok (.getfield 260, 3) := by decide +kernel
theorem dX11_wheelOf_20 : decode mX11_wheelOf.2.1 20 = .ok (.lcmp, 1) := by decide +kernel
theorem dX11_wheelOf_21 : decode mX11_wheelOf.2.1 21 = .ok (.ifCond .ne 5, 3) := by decide +kernel
theorem dX11_wheelOf_24 : decode mX11_wheelOf.2.1 24 = .ok (.iload_n 1, 1) := by decide +kernel
theorem dX11_wheelOf_25 : decode mX11_wheelOf.2.1 25 = .ok (.ireturn, 1) := by decide +kernel
theorem dX11_wheelOf_26 : decode mX11_wheelOf.2.1 26 = .ok (.iinc 1 1, 3) := by decide +kernel
theorem dX11_wheelOf_29 : decode mX11_wheelOf.2.1 29 = .ok (.goto (-27), 3) := by decide +kernel
theorem dX11_wheelOf_32 : decode mX11_wheelOf.2.1 32 = .ok (.iconst (-1), 1) := by decide +kernel
theorem dX11_wheelOf_33 : decode mX11_wheelOf.2.1 33 = .ok (.ireturn, 1) := by decide +kernel
def fX11_wheelOf_2 : Nat → Int32 → gS → Option (Int32 × gS)
  | 0, _, _ => none
  | n + 1, v1, σ => if (σ.1 168 26) ≤ v1 then
    some ((-1), σ)
  else
    gg (¬ (v1 < 0 ∨ 16 ≤ v1.toNatClampNeg)) (
    if (lg_cmp (σ.2.1 187 v1.toNatClampNeg) (σ.2.1 168 47)) = 0 then
      some (v1, σ)
    else
      bnd (v1 + 1) fun x4 =>
      fX11_wheelOf_2 n x4 σ)
set_option maxHeartbeats 4000000 in
set_option maxRecDepth 100000 in
theorem pX11_wheelOf_2 {E : gE} {r : Int32} {σ' : gS} : ∀ (n : Nat) (v1 : Int32) (σ : gS), fX11_wheelOf_2 n v1 σ = some (r, σ') → gG E mX11_wheelOf 2 [(0, .ref 168), (1, .int v1)] [] σ (some (.int r)) σ' := by
  intro n
  induction n with
  | zero => intro v1 σ h; exact absurd (show none = some (r, σ') from h) (by intro q; cases q)
  | succ n ih =>
  intro v1 σ h
  unfold fX11_wheelOf_2 at h
  refine g_iload_n dX11_wheelOf_2 rfl 1 rfl ?_
  refine g_aload_n dX11_wheelOf_3 rfl 0 rfl ?_
  refine g_getI dX11_wheelOf_4 gi_168 rfl fl_RX11_298 ?_
  refine g_icmp_ge (t := 32) dX11_wheelOf_7 (by decide) (fun c1 => ?_) (fun c1 => ?_)
  · replace h := if_t h c1
    refine g_iconst (v := (-1)) dX11_wheelOf_32 (by decide) ?_
    obtain ⟨rfl, rfl⟩ := so_inj h
    exact g_iret dX11_wheelOf_33 rfl
  · replace h := if_f h c1
    refine g_aload_n dX11_wheelOf_10 rfl 0 rfl ?_
    refine g_getC (n := 187) dX11_wheelOf_11 gi_168 rfl fl_RX11_73 ?_
    refine g_iload_n dX11_wheelOf_14 rfl 1 rfl ?_
    obtain ⟨g2, h⟩ := gg_some h
    refine g_lald dX11_wheelOf_15 gi_187 g2 ?_
    refine g_aload_n dX11_wheelOf_16 rfl 0 rfl ?_
    refine g_getJ dX11_wheelOf_17 gi_168 rfl fl_RX11_260 ?_
    refine g_lcmp dX11_wheelOf_20 ?_
    refine g_if_ne (t := 26) dX11_wheelOf_21 (by decide) (fun c3 => ?_) (fun c3 => ?_)
    · replace h := if_f h c3
      obtain ⟨x4, ex4, h⟩ := bnd_nm h
      refine g_iinc (j := 1) (v := x4) (lv' := [(1, .int x4), (0, .ref 168)]) dX11_wheelOf_26 rfl (by rw [ex4]; rfl) (Nat.le_of_ble_eq_true rfl) rfl ?_
      refine g_goto (t := 2) dX11_wheelOf_29 (by decide) ?_
      refine g_sub [1, 0] rfl ?_
      exact ih x4 σ h
    · replace h := if_t h c3
      refine g_iload_n dX11_wheelOf_24 rfl 1 rfl ?_
      obtain ⟨rfl, rfl⟩ := so_inj h
      exact g_iret dX11_wheelOf_25 rfl
def fX11_wheelOf (σ : gS) : Option (Int32 × gS) :=
  fX11_wheelOf_2 2000 0 σ
set_option maxHeartbeats 4000000 in
set_option maxRecDepth 100000 in
theorem pX11_wheelOf {E : gE} {r : Int32} {σ' : gS} {σ : gS} (h : fX11_wheelOf σ = some (r, σ')) : gG E mX11_wheelOf 0 [(0, .ref 168)] [] σ (some (.int r)) σ' := by
  unfold fX11_wheelOf at h
  refine g_iconst (v := 0) dX11_wheelOf_0 (by decide) ?_
  refine g_istore_n (lv' := [(1, .int 0), (0, .ref 168)]) dX11_wheelOf_1 rfl (Nat.le_of_ble_eq_true rfl) rfl ?_
  refine g_sub [1, 0] rfl ?_
  exact pX11_wheelOf_2 2000 0 σ h
theorem zX11_wheelOf {E : gE} {r : Int32} {σ σ' : gS} (h : fX11_wheelOf σ = some (r, σ')) : gC E mX11_wheelOf [.ref 168] σ (some (.int r)) σ' :=
  gC_of (by decide +kernel) rfl (Nat.le_of_ble_eq_true rfl) (pX11_wheelOf h)
def mX11_newName : gM := (yX11_newName, cX11_newName, RX11, 2, none, 2, 42)
theorem dX11_newName_0 : decode mX11_newName.2.1 0 = .ok (.aload_n 0, 1) := by decide +kernel
theorem dX11_newName_1 : decode mX11_newName.2.1 1 = .ok (.iconst 2, 1) := by decide +kernel
theorem dX11_newName_2 : decode mX11_newName.2.1 2 = .ok (.invokevirtual 289, 3) := by decide +kernel
theorem dX11_newName_5 : decode mX11_newName.2.1 5 = .ok (.aload_n 0, 1) := by decide +kernel
theorem dX11_newName_6 : decode mX11_newName.2.1 6 = .ok (.invokevirtual 282, 3) := by decide +kernel
theorem dX11_newName_9 : decode mX11_newName.2.1 9 = .ok (.ifCond .eq 22, 3) := by decide +kernel
theorem dX11_newName_12 : decode mX11_newName.2.1 12 = .ok (.aload_n 0, 1) := by decide +kernel
theorem dX11_newName_13 : decode mX11_newName.2.1 13 = .ok (.invokevirtual 301, 3) := by decide +kernel
theorem dX11_newName_16 : decode mX11_newName.2.1 16 = .ok (.ifCond .ge 10, 3) := by decide +kernel
theorem dX11_newName_19 : decode mX11_newName.2.1 19 = .ok (.aload_n 0, 1) := by decide +kernel
theorem dX11_newName_20 : decode mX11_newName.2.1 20 = .ok (.invokevirtual 304, 3) := by decide +kernel
theorem dX11_newName_23 : decode mX11_newName.2.1 23 = .ok (.ifCond .lt 8, 3) := by decide +kernel
theorem dX11_newName_26 : decode mX11_newName.2.1 26 = .ok (.aload_n 0, 1) := by decide +kernel
theorem dX11_newName_27 : decode mX11_newName.2.1 27 = .ok (.iconst 3, 1) := by decide +kernel
theorem dX11_newName_28 : decode mX11_newName.2.1 28 = .ok (.invokevirtual 285, 3) := by decide +kernel
theorem dX11_newName_31 : decode mX11_newName.2.1 31 = .ok (.aload_n 0, 1) := by decide +kernel
theorem dX11_newName_32 : decode mX11_newName.2.1 32 = .ok (.invokevirtual 282, 3) := by decide +kernel
theorem dX11_newName_35 : decode mX11_newName.2.1 35 = .ok (.ifCond .eq 13, 3) := by decide +kernel
theorem dX11_newName_38 : decode mX11_newName.2.1 38 = .ok (.iload_n 1, 1) := by decide +kernel
theorem dX11_newName_39 : decode mX11_newName.2.1 39 = .ok (.ifCond .eq 9, 3) := by decide +kernel
theorem dX11_newName_42 : decode mX11_newName.2.1 42 = .ok (.aload_n 0, 1) := by decide +kernel
theorem dX11_newName_43 : decode mX11_newName.2.1 43 = .ok (.bipush 6, 2) := by decide +kernel
theorem dX11_newName_45 : decode mX11_newName.2.1 45 = .ok (.invokevirtual 285, 3) := by decide +kernel
theorem dX11_newName_48 : decode mX11_newName.2.1 48 = .ok (.return_, 1) := by decide +kernel
theorem okX11_newName_282 : gOkV mX11_newName mX11_good 282 0 := ⟨List.forall_mem_cons.mpr ⟨(gm 1577 (by decide +kernel) rfl), List.forall_mem_cons.mpr ⟨(gm 1574 (by decide +kernel) rfl), List.forall_mem_cons.mpr ⟨(gm 1576 (by decide +kernel) rfl), List.forall_mem_cons.mpr ⟨(gm 61 (by decide +kernel) rfl), List.forall_mem_cons.mpr ⟨(gm 122 (by decide +kernel) rfl), fun _ h => absurd h List.not_mem_nil⟩⟩⟩⟩⟩, by decide +kernel, by decide +kernel, by decide +kernel⟩
theorem okX11_newName_285 : gOkV mX11_newName mX11_bad 285 1 := ⟨List.forall_mem_cons.mpr ⟨(gm 1585 (by decide +kernel) rfl), List.forall_mem_cons.mpr ⟨(gm 1582 (by decide +kernel) rfl), List.forall_mem_cons.mpr ⟨(gm 1584 (by decide +kernel) rfl), List.forall_mem_cons.mpr ⟨(gm 63 (by decide +kernel) rfl), List.forall_mem_cons.mpr ⟨(gm 122 (by decide +kernel) rfl), fun _ h => absurd h List.not_mem_nil⟩⟩⟩⟩⟩, by decide +kernel, by decide +kernel, by decide +kernel⟩
theorem okX11_newName_289 : gOkV mX11_newName mX11_want 289 1 := ⟨List.forall_mem_cons.mpr ⟨(gm 1581 (by decide +kernel) rfl), List.forall_mem_cons.mpr ⟨(gm 1578 (by decide +kernel) rfl), List.forall_mem_cons.mpr ⟨(gm 1580 (by decide +kernel) rfl), List.forall_mem_cons.mpr ⟨(gm 62 (by decide +kernel) rfl), List.forall_mem_cons.mpr ⟨(gm 122 (by decide +kernel) rfl), fun _ h => absurd h List.not_mem_nil⟩⟩⟩⟩⟩, by decide +kernel, by decide +kernel, by decide +kernel⟩
theorem okX11_newName_301 : gOkV mX11_newName mX11_jointOf 301 0 := ⟨List.forall_mem_cons.mpr ⟨(gm 1597 (by decide +kernel) rfl), List.forall_mem_cons.mpr ⟨(gm 1594 (by decide +kernel) rfl), List.forall_mem_cons.mpr ⟨(gm 1596 (by decide +kernel) rfl), List.forall_mem_cons.mpr ⟨(gm 66 (by decide +kernel) rfl), List.forall_mem_cons.mpr ⟨(gm 122 (by decide +kernel) rfl), fun _ h => absurd h List.not_mem_nil⟩⟩⟩⟩⟩, by decide +kernel, by decide +kernel, by decide +kernel⟩
theorem okX11_newName_304 : gOkV mX11_newName mX11_wheelOf 304 0 := ⟨List.forall_mem_cons.mpr ⟨(gm 1601 (by decide +kernel) rfl), List.forall_mem_cons.mpr ⟨(gm 1598 (by decide +kernel) rfl), List.forall_mem_cons.mpr ⟨(gm 1600 (by decide +kernel) rfl), List.forall_mem_cons.mpr ⟨(gm 67 (by decide +kernel) rfl), List.forall_mem_cons.mpr ⟨(gm 122 (by decide +kernel) rfl), fun _ h => absurd h List.not_mem_nil⟩⟩⟩⟩⟩, by decide +kernel, by decide +kernel, by decide +kernel⟩
def fX11_newName_48 (p1 : Int32) (σ : gS) : Option (Unit × gS) :=
  some ((), σ)
set_option maxHeartbeats 4000000 in
set_option maxRecDepth 100000 in
theorem pX11_newName_48 {E : gE} {p1 : Int32} {r : Unit} {σ' : gS} {σ : gS} (h : fX11_newName_48 p1 σ = some (r, σ')) : gG E mX11_newName 48 [] [] σ (none) σ' := by
  unfold fX11_newName_48 at h
  obtain ⟨rfl, rfl⟩ := so_inj h
  exact g_vret dX11_newName_48 rfl
def fX11_newName_31 (p1 : Int32) (σ : gS) : Option (Unit × gS) :=
  bd (fX11_good σ) fun x1 σ2 =>
  if x1 = 0 then
    fX11_newName_48 p1 σ2
  else
    if p1 = 0 then
      fX11_newName_48 p1 σ2
    else
      bd (fX11_bad 6 σ2) fun _ σ6 =>
      fX11_newName_48 p1 σ6
set_option maxHeartbeats 4000000 in
set_option maxRecDepth 100000 in
theorem pX11_newName_31 {E : gE} {p1 : Int32} {r : Unit} {σ' : gS} {σ : gS} (h : fX11_newName_31 p1 σ = some (r, σ')) : gG E mX11_newName 31 [(0, .ref 168), (1, .int p1)] [] σ (none) σ' := by
  unfold fX11_newName_31 at h
  refine g_aload_n dX11_newName_31 rfl 0 rfl ?_
  obtain ⟨x1, σ2, y3, h⟩ := bd_some h
  refine g_callVr (as := []) (st := []) (zX11_good y3) dX11_newName_32 gi_168 rfl okX11_newName_282 (Nat.le_of_ble_eq_true rfl) ?_
  refine g_if_eq (t := 48) dX11_newName_35 (by decide) (fun c4 => ?_) (fun c4 => ?_)
  · replace h := if_t h c4
    refine g_sub [] rfl ?_
    exact pX11_newName_48 h
  · replace h := if_f h c4
    refine g_iload_n dX11_newName_38 rfl 1 rfl ?_
    refine g_if_eq (t := 48) dX11_newName_39 (by decide) (fun c5 => ?_) (fun c5 => ?_)
    · replace h := if_t h c5
      refine g_sub [] rfl ?_
      exact pX11_newName_48 h
    · replace h := if_f h c5
      refine g_aload_n dX11_newName_42 rfl 0 rfl ?_
      refine g_bipush (v := 6) dX11_newName_43 (by decide) ?_
      obtain ⟨_, σ6, y7, h⟩ := bd_some h
      refine g_callVv (as := [.int 6]) (st := []) (zX11_bad y7) dX11_newName_45 gi_168 rfl okX11_newName_285 (Nat.le_of_ble_eq_true rfl) ?_
      refine g_sub [] rfl ?_
      exact pX11_newName_48 h
def fX11_newName_26 (p1 : Int32) (σ : gS) : Option (Unit × gS) :=
  bd (fX11_bad 3 σ) fun _ σ1 =>
  fX11_newName_31 p1 σ1
set_option maxHeartbeats 4000000 in
set_option maxRecDepth 100000 in
theorem pX11_newName_26 {E : gE} {p1 : Int32} {r : Unit} {σ' : gS} {σ : gS} (h : fX11_newName_26 p1 σ = some (r, σ')) : gG E mX11_newName 26 [(0, .ref 168), (1, .int p1)] [] σ (none) σ' := by
  unfold fX11_newName_26 at h
  refine g_aload_n dX11_newName_26 rfl 0 rfl ?_
  refine g_iconst (v := 3) dX11_newName_27 (by decide) ?_
  obtain ⟨_, σ1, y2, h⟩ := bd_some h
  refine g_callVv (as := [.int 3]) (st := []) (zX11_bad y2) dX11_newName_28 gi_168 rfl okX11_newName_285 (Nat.le_of_ble_eq_true rfl) ?_
  exact pX11_newName_31 h
def fX11_newName (p1 : Int32) (σ : gS) : Option (Unit × gS) :=
  bd (fX11_want 2 σ) fun _ σ1 =>
  bd (fX11_good σ1) fun x3 σ4 =>
  if x3 = 0 then
    fX11_newName_31 p1 σ4
  else
    bd (fX11_jointOf σ4) fun x7 σ8 =>
    if 0 ≤ x7 then
      fX11_newName_26 p1 σ8
    else
      bd (fX11_wheelOf σ8) fun x11 σ12 =>
      if x11 < 0 then
        fX11_newName_31 p1 σ12
      else
        fX11_newName_26 p1 σ12
set_option maxHeartbeats 4000000 in
set_option maxRecDepth 100000 in
theorem pX11_newName {E : gE} {p1 : Int32} {r : Unit} {σ' : gS} {σ : gS} (h : fX11_newName p1 σ = some (r, σ')) : gG E mX11_newName 0 [(0, .ref 168), (1, .int p1)] [] σ (none) σ' := by
  unfold fX11_newName at h
  refine g_aload_n dX11_newName_0 rfl 0 rfl ?_
  refine g_iconst (v := 2) dX11_newName_1 (by decide) ?_
  obtain ⟨_, σ1, y2, h⟩ := bd_some h
  refine g_callVv (as := [.int 2]) (st := []) (zX11_want y2) dX11_newName_2 gi_168 rfl okX11_newName_289 (Nat.le_of_ble_eq_true rfl) ?_
  refine g_aload_n dX11_newName_5 rfl 0 rfl ?_
  obtain ⟨x3, σ4, y5, h⟩ := bd_some h
  refine g_callVr (as := []) (st := []) (zX11_good y5) dX11_newName_6 gi_168 rfl okX11_newName_282 (Nat.le_of_ble_eq_true rfl) ?_
  refine g_if_eq (t := 31) dX11_newName_9 (by decide) (fun c6 => ?_) (fun c6 => ?_)
  · replace h := if_t h c6
    exact pX11_newName_31 h
  · replace h := if_f h c6
    refine g_aload_n dX11_newName_12 rfl 0 rfl ?_
    obtain ⟨x7, σ8, y9, h⟩ := bd_some h
    refine g_callVr (as := []) (st := []) (zX11_jointOf y9) dX11_newName_13 gi_168 rfl okX11_newName_301 (Nat.le_of_ble_eq_true rfl) ?_
    refine g_if_ge (t := 26) dX11_newName_16 (by decide) (fun c10 => ?_) (fun c10 => ?_)
    · replace h := if_t h c10
      exact pX11_newName_26 h
    · replace h := if_f h c10
      refine g_aload_n dX11_newName_19 rfl 0 rfl ?_
      obtain ⟨x11, σ12, y13, h⟩ := bd_some h
      refine g_callVr (as := []) (st := []) (zX11_wheelOf y13) dX11_newName_20 gi_168 rfl okX11_newName_304 (Nat.le_of_ble_eq_true rfl) ?_
      refine g_if_lt (t := 31) dX11_newName_23 (by decide) (fun c14 => ?_) (fun c14 => ?_)
      · replace h := if_t h c14
        exact pX11_newName_31 h
      · replace h := if_f h c14
        exact pX11_newName_26 h
theorem zX11_newName {E : gE} {p1 : Int32} {r : Unit} {σ σ' : gS} (h : fX11_newName p1 σ = some (r, σ')) : gC E mX11_newName [.ref 168, .int p1] σ (none) σ' :=
  gC_of (by decide +kernel) rfl (Nat.le_of_ble_eq_true rfl) (pX11_newName h)
def mX11_oldJoint : gM := (yX11_oldJoint, cX11_oldJoint, RX11, 2, (some .int), 2, 42)
theorem dX11_oldJoint_0 : decode mX11_oldJoint.2.1 0 = .ok (.aload_n 0, 1) := by decide +kernel
theorem dX11_oldJoint_1 : decode mX11_oldJoint.2.1 1 = .ok (.iconst 2, 1) := by decide +kernel
theorem dX11_oldJoint_2 : decode mX11_oldJoint.2.1 2 = .ok (.invokevirtual 289, 3) := by decide +kernel
theorem dX11_oldJoint_5 : decode mX11_oldJoint.2.1 5 = .ok (.aload_n 0, 1) := by decide +kernel
theorem dX11_oldJoint_6 : decode mX11_oldJoint.2.1 6 = .ok (.invokevirtual 282, 3) := by decide +kernel
theorem dX11_oldJoint_9 : decode mX11_oldJoint.2.1 9 = .ok (.ifCond .eq 10, 3) := by decide +kernel
theorem dX11_oldJoint_12 : decode mX11_oldJoint.2.1 12 = .ok (.aload_n 0, 1) := by decide +kernel
theorem dX11_oldJoint_13 : decode mX11_oldJoint.2.1 13 = .ok (.invokevirtual 301, 3) := by decide +kernel
theorem dX11_oldJoint_16 : decode mX11_oldJoint.2.1 16 = .ok (.goto 4, 3) := by decide +kernel
theorem dX11_oldJoint_19 : decode mX11_oldJoint.2.1 19 = .ok (.iconst (-1), 1) := by decide +kernel
theorem dX11_oldJoint_20 : decode mX11_oldJoint.2.1 20 = .ok (.istore_n 1, 1) := by decide +kernel
theorem dX11_oldJoint_21 : decode mX11_oldJoint.2.1 21 = .ok (.aload_n 0, 1) := by decide +kernel
theorem dX11_oldJoint_22 : decode mX11_oldJoint.2.1 22 = .ok (.invokevirtual 282, 3) := by decide +kernel
theorem dX11_oldJoint_25 : decode mX11_oldJoint.2.1 25 = .ok (.ifCond .eq 12, 3) := by decide +kernel
theorem dX11_oldJoint_28 : decode mX11_oldJoint.2.1 28 = .ok (.iload_n 1, 1) := by decide +kernel
theorem dX11_oldJoint_29 : decode mX11_oldJoint.2.1 29 = .ok (.ifCond .ge 8, 3) := by decide +kernel
theorem dX11_oldJoint_32 : decode mX11_oldJoint.2.1 32 = .ok (.aload_n 0, 1) := by decide +kernel
theorem dX11_oldJoint_33 : decode mX11_oldJoint.2.1 33 = .ok (.iconst 4, 1) := by decide +kernel
theorem dX11_oldJoint_34 : decode mX11_oldJoint.2.1 34 = .ok (.invokevirtual 285, 3) := by decide +kernel
theorem dX11_oldJoint_37 : decode mX11_oldJoint.2.1 37 = .ok (.iload_n 1, 1) := by decide +kernel
theorem dX11_oldJoint_38 : decode mX11_oldJoint.2.1 38 = .ok (.ireturn, 1) := by decide +kernel
theorem okX11_oldJoint_282 : gOkV mX11_oldJoint mX11_good 282 0 := ⟨List.forall_mem_cons.mpr ⟨(gm 1577 (by decide +kernel) rfl), List.forall_mem_cons.mpr ⟨(gm 1574 (by decide +kernel) rfl), List.forall_mem_cons.mpr ⟨(gm 1576 (by decide +kernel) rfl), List.forall_mem_cons.mpr ⟨(gm 61 (by decide +kernel) rfl), List.forall_mem_cons.mpr ⟨(gm 122 (by decide +kernel) rfl), fun _ h => absurd h List.not_mem_nil⟩⟩⟩⟩⟩, by decide +kernel, by decide +kernel, by decide +kernel⟩
theorem okX11_oldJoint_285 : gOkV mX11_oldJoint mX11_bad 285 1 := ⟨List.forall_mem_cons.mpr ⟨(gm 1585 (by decide +kernel) rfl), List.forall_mem_cons.mpr ⟨(gm 1582 (by decide +kernel) rfl), List.forall_mem_cons.mpr ⟨(gm 1584 (by decide +kernel) rfl), List.forall_mem_cons.mpr ⟨(gm 63 (by decide +kernel) rfl), List.forall_mem_cons.mpr ⟨(gm 122 (by decide +kernel) rfl), fun _ h => absurd h List.not_mem_nil⟩⟩⟩⟩⟩, by decide +kernel, by decide +kernel, by decide +kernel⟩
theorem okX11_oldJoint_289 : gOkV mX11_oldJoint mX11_want 289 1 := ⟨List.forall_mem_cons.mpr ⟨(gm 1581 (by decide +kernel) rfl), List.forall_mem_cons.mpr ⟨(gm 1578 (by decide +kernel) rfl), List.forall_mem_cons.mpr ⟨(gm 1580 (by decide +kernel) rfl), List.forall_mem_cons.mpr ⟨(gm 62 (by decide +kernel) rfl), List.forall_mem_cons.mpr ⟨(gm 122 (by decide +kernel) rfl), fun _ h => absurd h List.not_mem_nil⟩⟩⟩⟩⟩, by decide +kernel, by decide +kernel, by decide +kernel⟩
theorem okX11_oldJoint_301 : gOkV mX11_oldJoint mX11_jointOf 301 0 := ⟨List.forall_mem_cons.mpr ⟨(gm 1597 (by decide +kernel) rfl), List.forall_mem_cons.mpr ⟨(gm 1594 (by decide +kernel) rfl), List.forall_mem_cons.mpr ⟨(gm 1596 (by decide +kernel) rfl), List.forall_mem_cons.mpr ⟨(gm 66 (by decide +kernel) rfl), List.forall_mem_cons.mpr ⟨(gm 122 (by decide +kernel) rfl), fun _ h => absurd h List.not_mem_nil⟩⟩⟩⟩⟩, by decide +kernel, by decide +kernel, by decide +kernel⟩
def fX11_oldJoint_37 (v1 : Int32) (σ : gS) : Option (Int32 × gS) :=
  some (v1, σ)
set_option maxHeartbeats 4000000 in
set_option maxRecDepth 100000 in
theorem pX11_oldJoint_37 {E : gE} {r : Int32} {σ' : gS} {v1 : Int32} {σ : gS} (h : fX11_oldJoint_37 v1 σ = some (r, σ')) : gG E mX11_oldJoint 37 [(1, .int v1)] [] σ (some (.int r)) σ' := by
  unfold fX11_oldJoint_37 at h
  refine g_iload_n dX11_oldJoint_37 rfl 0 rfl ?_
  obtain ⟨rfl, rfl⟩ := so_inj h
  exact g_iret dX11_oldJoint_38 rfl
def fX11_oldJoint_20 (s0 : Int32) (σ : gS) : Option (Int32 × gS) :=
  bd (fX11_good σ) fun x1 σ2 =>
  if x1 = 0 then
    fX11_oldJoint_37 s0 σ2
  else
    if 0 ≤ s0 then
      fX11_oldJoint_37 s0 σ2
    else
      bd (fX11_bad 4 σ2) fun _ σ6 =>
      fX11_oldJoint_37 s0 σ6
set_option maxHeartbeats 4000000 in
set_option maxRecDepth 100000 in
theorem pX11_oldJoint_20 {E : gE} {r : Int32} {σ' : gS} {s0 : Int32} {σ : gS} (h : fX11_oldJoint_20 s0 σ = some (r, σ')) : gG E mX11_oldJoint 20 [(0, .ref 168)] [.int s0] σ (some (.int r)) σ' := by
  unfold fX11_oldJoint_20 at h
  refine g_istore_n (lv' := [(1, .int s0), (0, .ref 168)]) dX11_oldJoint_20 rfl (Nat.le_of_ble_eq_true rfl) rfl ?_
  refine g_aload_n dX11_oldJoint_21 rfl 1 rfl ?_
  obtain ⟨x1, σ2, y3, h⟩ := bd_some h
  refine g_callVr (as := []) (st := []) (zX11_good y3) dX11_oldJoint_22 gi_168 rfl okX11_oldJoint_282 (Nat.le_of_ble_eq_true rfl) ?_
  refine g_if_eq (t := 37) dX11_oldJoint_25 (by decide) (fun c4 => ?_) (fun c4 => ?_)
  · replace h := if_t h c4
    refine g_sub [0] rfl ?_
    exact pX11_oldJoint_37 h
  · replace h := if_f h c4
    refine g_iload_n dX11_oldJoint_28 rfl 0 rfl ?_
    refine g_if_ge (t := 37) dX11_oldJoint_29 (by decide) (fun c5 => ?_) (fun c5 => ?_)
    · replace h := if_t h c5
      refine g_sub [0] rfl ?_
      exact pX11_oldJoint_37 h
    · replace h := if_f h c5
      refine g_aload_n dX11_oldJoint_32 rfl 1 rfl ?_
      refine g_iconst (v := 4) dX11_oldJoint_33 (by decide) ?_
      obtain ⟨_, σ6, y7, h⟩ := bd_some h
      refine g_callVv (as := [.int 4]) (st := []) (zX11_bad y7) dX11_oldJoint_34 gi_168 rfl okX11_oldJoint_285 (Nat.le_of_ble_eq_true rfl) ?_
      refine g_sub [0] rfl ?_
      exact pX11_oldJoint_37 h
def fX11_oldJoint (σ : gS) : Option (Int32 × gS) :=
  bd (fX11_want 2 σ) fun _ σ1 =>
  bd (fX11_good σ1) fun x3 σ4 =>
  if x3 = 0 then
    fX11_oldJoint_20 (-1) σ4
  else
    bd (fX11_jointOf σ4) fun x7 σ8 =>
    fX11_oldJoint_20 x7 σ8
set_option maxHeartbeats 4000000 in
set_option maxRecDepth 100000 in
theorem pX11_oldJoint {E : gE} {r : Int32} {σ' : gS} {σ : gS} (h : fX11_oldJoint σ = some (r, σ')) : gG E mX11_oldJoint 0 [(0, .ref 168)] [] σ (some (.int r)) σ' := by
  unfold fX11_oldJoint at h
  refine g_aload_n dX11_oldJoint_0 rfl 0 rfl ?_
  refine g_iconst (v := 2) dX11_oldJoint_1 (by decide) ?_
  obtain ⟨_, σ1, y2, h⟩ := bd_some h
  refine g_callVv (as := [.int 2]) (st := []) (zX11_want y2) dX11_oldJoint_2 gi_168 rfl okX11_oldJoint_289 (Nat.le_of_ble_eq_true rfl) ?_
  refine g_aload_n dX11_oldJoint_5 rfl 0 rfl ?_
  obtain ⟨x3, σ4, y5, h⟩ := bd_some h
  refine g_callVr (as := []) (st := []) (zX11_good y5) dX11_oldJoint_6 gi_168 rfl okX11_oldJoint_282 (Nat.le_of_ble_eq_true rfl) ?_
  refine g_if_eq (t := 19) dX11_oldJoint_9 (by decide) (fun c6 => ?_) (fun c6 => ?_)
  · replace h := if_t h c6
    refine g_iconst (v := (-1)) dX11_oldJoint_19 (by decide) ?_
    exact pX11_oldJoint_20 h
  · replace h := if_f h c6
    refine g_aload_n dX11_oldJoint_12 rfl 0 rfl ?_
    obtain ⟨x7, σ8, y9, h⟩ := bd_some h
    refine g_callVr (as := []) (st := []) (zX11_jointOf y9) dX11_oldJoint_13 gi_168 rfl okX11_oldJoint_301 (Nat.le_of_ble_eq_true rfl) ?_
    refine g_goto (t := 20) dX11_oldJoint_16 (by decide) ?_
    exact pX11_oldJoint_20 h
theorem zX11_oldJoint {E : gE} {r : Int32} {σ σ' : gS} (h : fX11_oldJoint σ = some (r, σ')) : gC E mX11_oldJoint [.ref 168] σ (some (.int r)) σ' :=
  gC_of (by decide +kernel) rfl (Nat.le_of_ble_eq_true rfl) (pX11_oldJoint h)
def mX11_oldWheel : gM := (yX11_oldWheel, cX11_oldWheel, RX11, 2, (some .int), 2, 42)
theorem dX11_oldWheel_0 : decode mX11_oldWheel.2.1 0 = .ok (.aload_n 0, 1) := by decide +kernel
theorem dX11_oldWheel_1 : decode mX11_oldWheel.2.1 1 = .ok (.iconst 2, 1) := by decide +kernel
theorem dX11_oldWheel_2 : decode mX11_oldWheel.2.1 2 = .ok (.invokevirtual 289, 3) := by decide +kernel
theorem dX11_oldWheel_5 : decode mX11_oldWheel.2.1 5 = .ok (.aload_n 0, 1) := by decide +kernel
theorem dX11_oldWheel_6 : decode mX11_oldWheel.2.1 6 = .ok (.invokevirtual 282, 3) := by decide +kernel
theorem dX11_oldWheel_9 : decode mX11_oldWheel.2.1 9 = .ok (.ifCond .eq 10, 3) := by decide +kernel
theorem dX11_oldWheel_12 : decode mX11_oldWheel.2.1 12 = .ok (.aload_n 0, 1) := by decide +kernel
theorem dX11_oldWheel_13 : decode mX11_oldWheel.2.1 13 = .ok (.invokevirtual 304, 3) := by decide +kernel
theorem dX11_oldWheel_16 : decode mX11_oldWheel.2.1 16 = .ok (.goto 4, 3) := by decide +kernel
theorem dX11_oldWheel_19 : decode mX11_oldWheel.2.1 19 = .ok (.iconst (-1), 1) := by decide +kernel
theorem dX11_oldWheel_20 : decode mX11_oldWheel.2.1 20 = .ok (.istore_n 1, 1) := by decide +kernel
theorem dX11_oldWheel_21 : decode mX11_oldWheel.2.1 21 = .ok (.aload_n 0, 1) := by decide +kernel
theorem dX11_oldWheel_22 : decode mX11_oldWheel.2.1 22 = .ok (.invokevirtual 282, 3) := by decide +kernel
theorem dX11_oldWheel_25 : decode mX11_oldWheel.2.1 25 = .ok (.ifCond .eq 12, 3) := by decide +kernel
theorem dX11_oldWheel_28 : decode mX11_oldWheel.2.1 28 = .ok (.iload_n 1, 1) := by decide +kernel
theorem dX11_oldWheel_29 : decode mX11_oldWheel.2.1 29 = .ok (.ifCond .ge 8, 3) := by decide +kernel
theorem dX11_oldWheel_32 : decode mX11_oldWheel.2.1 32 = .ok (.aload_n 0, 1) := by decide +kernel
theorem dX11_oldWheel_33 : decode mX11_oldWheel.2.1 33 = .ok (.iconst 4, 1) := by decide +kernel
theorem dX11_oldWheel_34 : decode mX11_oldWheel.2.1 34 = .ok (.invokevirtual 285, 3) := by decide +kernel
theorem dX11_oldWheel_37 : decode mX11_oldWheel.2.1 37 = .ok (.iload_n 1, 1) := by decide +kernel
theorem dX11_oldWheel_38 : decode mX11_oldWheel.2.1 38 = .ok (.ireturn, 1) := by decide +kernel
theorem okX11_oldWheel_282 : gOkV mX11_oldWheel mX11_good 282 0 := ⟨List.forall_mem_cons.mpr ⟨(gm 1577 (by decide +kernel) rfl), List.forall_mem_cons.mpr ⟨(gm 1574 (by decide +kernel) rfl), List.forall_mem_cons.mpr ⟨(gm 1576 (by decide +kernel) rfl), List.forall_mem_cons.mpr ⟨(gm 61 (by decide +kernel) rfl), List.forall_mem_cons.mpr ⟨(gm 122 (by decide +kernel) rfl), fun _ h => absurd h List.not_mem_nil⟩⟩⟩⟩⟩, by decide +kernel, by decide +kernel, by decide +kernel⟩
theorem okX11_oldWheel_285 : gOkV mX11_oldWheel mX11_bad 285 1 := ⟨List.forall_mem_cons.mpr ⟨(gm 1585 (by decide +kernel) rfl), List.forall_mem_cons.mpr ⟨(gm 1582 (by decide +kernel) rfl), List.forall_mem_cons.mpr ⟨(gm 1584 (by decide +kernel) rfl), List.forall_mem_cons.mpr ⟨(gm 63 (by decide +kernel) rfl), List.forall_mem_cons.mpr ⟨(gm 122 (by decide +kernel) rfl), fun _ h => absurd h List.not_mem_nil⟩⟩⟩⟩⟩, by decide +kernel, by decide +kernel, by decide +kernel⟩
theorem okX11_oldWheel_289 : gOkV mX11_oldWheel mX11_want 289 1 := ⟨List.forall_mem_cons.mpr ⟨(gm 1581 (by decide +kernel) rfl), List.forall_mem_cons.mpr ⟨(gm 1578 (by decide +kernel) rfl), List.forall_mem_cons.mpr ⟨(gm 1580 (by decide +kernel) rfl), List.forall_mem_cons.mpr ⟨(gm 62 (by decide +kernel) rfl), List.forall_mem_cons.mpr ⟨(gm 122 (by decide +kernel) rfl), fun _ h => absurd h List.not_mem_nil⟩⟩⟩⟩⟩, by decide +kernel, by decide +kernel, by decide +kernel⟩
theorem okX11_oldWheel_304 : gOkV mX11_oldWheel mX11_wheelOf 304 0 := ⟨List.forall_mem_cons.mpr ⟨(gm 1601 (by decide +kernel) rfl), List.forall_mem_cons.mpr ⟨(gm 1598 (by decide +kernel) rfl), List.forall_mem_cons.mpr ⟨(gm 1600 (by decide +kernel) rfl), List.forall_mem_cons.mpr ⟨(gm 67 (by decide +kernel) rfl), List.forall_mem_cons.mpr ⟨(gm 122 (by decide +kernel) rfl), fun _ h => absurd h List.not_mem_nil⟩⟩⟩⟩⟩, by decide +kernel, by decide +kernel, by decide +kernel⟩
def fX11_oldWheel_37 (v1 : Int32) (σ : gS) : Option (Int32 × gS) :=
  some (v1, σ)
set_option maxHeartbeats 4000000 in
set_option maxRecDepth 100000 in
theorem pX11_oldWheel_37 {E : gE} {r : Int32} {σ' : gS} {v1 : Int32} {σ : gS} (h : fX11_oldWheel_37 v1 σ = some (r, σ')) : gG E mX11_oldWheel 37 [(1, .int v1)] [] σ (some (.int r)) σ' := by
  unfold fX11_oldWheel_37 at h
  refine g_iload_n dX11_oldWheel_37 rfl 0 rfl ?_
  obtain ⟨rfl, rfl⟩ := so_inj h
  exact g_iret dX11_oldWheel_38 rfl
def fX11_oldWheel_20 (s0 : Int32) (σ : gS) : Option (Int32 × gS) :=
  bd (fX11_good σ) fun x1 σ2 =>
  if x1 = 0 then
    fX11_oldWheel_37 s0 σ2
  else
    if 0 ≤ s0 then
      fX11_oldWheel_37 s0 σ2
    else
      bd (fX11_bad 4 σ2) fun _ σ6 =>
      fX11_oldWheel_37 s0 σ6
set_option maxHeartbeats 4000000 in
set_option maxRecDepth 100000 in
theorem pX11_oldWheel_20 {E : gE} {r : Int32} {σ' : gS} {s0 : Int32} {σ : gS} (h : fX11_oldWheel_20 s0 σ = some (r, σ')) : gG E mX11_oldWheel 20 [(0, .ref 168)] [.int s0] σ (some (.int r)) σ' := by
  unfold fX11_oldWheel_20 at h
  refine g_istore_n (lv' := [(1, .int s0), (0, .ref 168)]) dX11_oldWheel_20 rfl (Nat.le_of_ble_eq_true rfl) rfl ?_
  refine g_aload_n dX11_oldWheel_21 rfl 1 rfl ?_
  obtain ⟨x1, σ2, y3, h⟩ := bd_some h
  refine g_callVr (as := []) (st := []) (zX11_good y3) dX11_oldWheel_22 gi_168 rfl okX11_oldWheel_282 (Nat.le_of_ble_eq_true rfl) ?_
  refine g_if_eq (t := 37) dX11_oldWheel_25 (by decide) (fun c4 => ?_) (fun c4 => ?_)
  · replace h := if_t h c4
    refine g_sub [0] rfl ?_
    exact pX11_oldWheel_37 h
  · replace h := if_f h c4
    refine g_iload_n dX11_oldWheel_28 rfl 0 rfl ?_
    refine g_if_ge (t := 37) dX11_oldWheel_29 (by decide) (fun c5 => ?_) (fun c5 => ?_)
    · replace h := if_t h c5
      refine g_sub [0] rfl ?_
      exact pX11_oldWheel_37 h
    · replace h := if_f h c5
      refine g_aload_n dX11_oldWheel_32 rfl 1 rfl ?_
      refine g_iconst (v := 4) dX11_oldWheel_33 (by decide) ?_
      obtain ⟨_, σ6, y7, h⟩ := bd_some h
      refine g_callVv (as := [.int 4]) (st := []) (zX11_bad y7) dX11_oldWheel_34 gi_168 rfl okX11_oldWheel_285 (Nat.le_of_ble_eq_true rfl) ?_
      refine g_sub [0] rfl ?_
      exact pX11_oldWheel_37 h
def fX11_oldWheel (σ : gS) : Option (Int32 × gS) :=
  bd (fX11_want 2 σ) fun _ σ1 =>
  bd (fX11_good σ1) fun x3 σ4 =>
  if x3 = 0 then
    fX11_oldWheel_20 (-1) σ4
  else
    bd (fX11_wheelOf σ4) fun x7 σ8 =>
    fX11_oldWheel_20 x7 σ8
set_option maxHeartbeats 4000000 in
set_option maxRecDepth 100000 in
theorem pX11_oldWheel {E : gE} {r : Int32} {σ' : gS} {σ : gS} (h : fX11_oldWheel σ = some (r, σ')) : gG E mX11_oldWheel 0 [(0, .ref 168)] [] σ (some (.int r)) σ' := by
  unfold fX11_oldWheel at h
  refine g_aload_n dX11_oldWheel_0 rfl 0 rfl ?_
  refine g_iconst (v := 2) dX11_oldWheel_1 (by decide) ?_
  obtain ⟨_, σ1, y2, h⟩ := bd_some h
  refine g_callVv (as := [.int 2]) (st := []) (zX11_want y2) dX11_oldWheel_2 gi_168 rfl okX11_oldWheel_289 (Nat.le_of_ble_eq_true rfl) ?_
  refine g_aload_n dX11_oldWheel_5 rfl 0 rfl ?_
  obtain ⟨x3, σ4, y5, h⟩ := bd_some h
  refine g_callVr (as := []) (st := []) (zX11_good y5) dX11_oldWheel_6 gi_168 rfl okX11_oldWheel_282 (Nat.le_of_ble_eq_true rfl) ?_
  refine g_if_eq (t := 19) dX11_oldWheel_9 (by decide) (fun c6 => ?_) (fun c6 => ?_)
  · replace h := if_t h c6
    refine g_iconst (v := (-1)) dX11_oldWheel_19 (by decide) ?_
    exact pX11_oldWheel_20 h
  · replace h := if_f h c6
    refine g_aload_n dX11_oldWheel_12 rfl 0 rfl ?_
    obtain ⟨x7, σ8, y9, h⟩ := bd_some h
    refine g_callVr (as := []) (st := []) (zX11_wheelOf y9) dX11_oldWheel_13 gi_168 rfl okX11_oldWheel_304 (Nat.le_of_ble_eq_true rfl) ?_
    refine g_goto (t := 20) dX11_oldWheel_16 (by decide) ?_
    exact pX11_oldWheel_20 h
theorem zX11_oldWheel {E : gE} {r : Int32} {σ σ' : gS} (h : fX11_oldWheel σ = some (r, σ')) : gC E mX11_oldWheel [.ref 168] σ (some (.int r)) σ' :=
  gC_of (by decide +kernel) rfl (Nat.le_of_ble_eq_true rfl) (pX11_oldWheel h)
theorem fl_RX11_274 : gFl RX11 274 11 48 := ⟨RX11, TX11, 101, rfl, by decide, ux_11, Or.inl (gm 1276 (by decide +kernel) rfl)⟩
def mX11_bounded : gM := (yX11_bounded, cX11_bounded, RX11, 4, (some .int), 3, 72)
theorem dX11_bounded_0 : decode mX11_bounded.2.1 0 = .ok (.aload_n 0, 1) := by decide +kernel
theorem dX11_bounded_1 : decode mX11_bounded.2.1 1 = .ok (.iconst 3, 1) := by decide +kernel
theorem dX11_bounded_2 : decode mX11_bounded.2.1 2 = .ok (.invokevirtual 289, 3) := by decide +kernel
theorem dX11_bounded_5 : decode mX11_bounded.2.1 5 = .ok (.aload_n 0, 1) := by decide +kernel
theorem dX11_bounded_6 : decode mX11_bounded.2.1 6 = .ok (.invokevirtual 282, 3) := by decide +kernel
theorem dX11_bounded_9 : decode mX11_bounded.2.1 9 = .ok (.ifCond .eq 23, 3) := by decide +kernel
theorem dX11_bounded_12 : decode mX11_bounded.2.1 12 = .ok (.aload_n 0, 1) := by decide +kernel
theorem dX11_bounded_13 : decode mX11_bounded.2.1 13 = .ok (.getfield 274, 3) := by decide +kernel
theorem dX11_bounded_16 : decode mX11_bounded.2.1 16 = .ok (.i2l, 1) := by decide +kernel
theorem dX11_bounded_17 : decode mX11_bounded.2.1 17 = .ok (.iload_n 1, 1) := by decide +kernel
theorem dX11_bounded_18 : decode mX11_bounded.2.1 18 = .ok (.i2l, 1) := by decide +kernel
theorem dX11_bounded_19 : decode mX11_bounded.2.1 19 = .ok (.iload_n 2, 1) := by decide +kernel
theorem dX11_bounded_20 : decode mX11_bounded.2.1 20 = .ok (.i2l, 1) := by decide +kernel
theorem dX11_bounded_21 : decode mX11_bounded.2.1 21 = .ok (.invokestatic 220, 3) := by decide +kernel
theorem dX11_bounded_24 : decode mX11_bounded.2.1 24 = .ok (.ifCond .ne 8, 3) := by decide +kernel
theorem dX11_bounded_27 : decode mX11_bounded.2.1 27 = .ok (.aload_n 0, 1) := by decide +kernel
theorem dX11_bounded_28 : decode mX11_bounded.2.1 28 = .ok (.iconst 5, 1) := by decide +kernel
theorem dX11_bounded_29 : decode mX11_bounded.2.1 29 = .ok (.invokevirtual 285, 3) := by decide +kernel
theorem dX11_bounded_32 : decode mX11_bounded.2.1 32 = .ok (.aload_n 0, 1) := by decide +kernel
theorem dX11_bounded_33 : decode mX11_bounded.2.1 33 = .ok (.getfield 274, 3) := by decide +kernel
theorem dX11_bounded_36 : decode mX11_bounded.2.1 36 = .ok (.istore_n 3, 1) := by decide +kernel
theorem dX11_bounded_37 : decode mX11_bounded.2.1 37 = .ok (.aload_n 0, 1) := by decide +kernel
theorem dX11_bounded_38 : decode mX11_bounded.2.1 38 = .ok (.invokevirtual 282, 3) := by decide +kernel
theorem dX11_bounded_41 : decode mX11_bounded.2.1 41 = .ok (.ifCond .eq 7, 3) := by decide +kernel
theorem dX11_bounded_44 : decode mX11_bounded.2.1 44 = .ok (.aload_n 0, 1) := by decide +kernel
theorem dX11_bounded_45 : decode mX11_bounded.2.1 45 = .ok (.invokevirtual 292, 3) := by decide +kernel
theorem dX11_bounded_48 : decode mX11_bounded.2.1 48 = .ok (.iload_n 3, 1) := by decide +kernel
theorem dX11_bounded_49 : decode mX11_bounded.2.1 49 = .ok (.ireturn, 1) := by decide +kernel
theorem okX11_bounded_282 : gOkV mX11_bounded mX11_good 282 0 := ⟨List.forall_mem_cons.mpr ⟨(gm 1577 (by decide +kernel) rfl), List.forall_mem_cons.mpr ⟨(gm 1574 (by decide +kernel) rfl), List.forall_mem_cons.mpr ⟨(gm 1576 (by decide +kernel) rfl), List.forall_mem_cons.mpr ⟨(gm 61 (by decide +kernel) rfl), List.forall_mem_cons.mpr ⟨(gm 122 (by decide +kernel) rfl), fun _ h => absurd h List.not_mem_nil⟩⟩⟩⟩⟩, by decide +kernel, by decide +kernel, by decide +kernel⟩
theorem okX11_bounded_292 : gOkV mX11_bounded mX11_next 292 0 := ⟨List.forall_mem_cons.mpr ⟨(gm 1550 (by decide +kernel) rfl), List.forall_mem_cons.mpr ⟨(gm 1547 (by decide +kernel) rfl), List.forall_mem_cons.mpr ⟨(gm 1549 (by decide +kernel) rfl), List.forall_mem_cons.mpr ⟨(gm 57 (by decide +kernel) rfl), List.forall_mem_cons.mpr ⟨(gm 122 (by decide +kernel) rfl), fun _ h => absurd h List.not_mem_nil⟩⟩⟩⟩⟩, by decide +kernel, by decide +kernel, by decide +kernel⟩
theorem okX11_bounded_289 : gOkV mX11_bounded mX11_want 289 1 := ⟨List.forall_mem_cons.mpr ⟨(gm 1581 (by decide +kernel) rfl), List.forall_mem_cons.mpr ⟨(gm 1578 (by decide +kernel) rfl), List.forall_mem_cons.mpr ⟨(gm 1580 (by decide +kernel) rfl), List.forall_mem_cons.mpr ⟨(gm 62 (by decide +kernel) rfl), List.forall_mem_cons.mpr ⟨(gm 122 (by decide +kernel) rfl), fun _ h => absurd h List.not_mem_nil⟩⟩⟩⟩⟩, by decide +kernel, by decide +kernel, by decide +kernel⟩
theorem okX11_bounded_220 : gOkS mX11_bounded mX11_in 220 3 := ⟨List.forall_mem_cons.mpr ⟨(gm 1539 (by decide +kernel) rfl), List.forall_mem_cons.mpr ⟨(gm 1537 (by decide +kernel) rfl), List.forall_mem_cons.mpr ⟨(gm 1538 (by decide +kernel) rfl), List.forall_mem_cons.mpr ⟨(gm 122 (by decide +kernel) rfl), fun _ h => absurd h List.not_mem_nil⟩⟩⟩⟩, by decide +kernel, by decide +kernel, by decide +kernel⟩
theorem okX11_bounded_285 : gOkV mX11_bounded mX11_bad 285 1 := ⟨List.forall_mem_cons.mpr ⟨(gm 1585 (by decide +kernel) rfl), List.forall_mem_cons.mpr ⟨(gm 1582 (by decide +kernel) rfl), List.forall_mem_cons.mpr ⟨(gm 1584 (by decide +kernel) rfl), List.forall_mem_cons.mpr ⟨(gm 63 (by decide +kernel) rfl), List.forall_mem_cons.mpr ⟨(gm 122 (by decide +kernel) rfl), fun _ h => absurd h List.not_mem_nil⟩⟩⟩⟩⟩, by decide +kernel, by decide +kernel, by decide +kernel⟩
def fX11_bounded_48 (p1 : Int32) (p2 : Int32) (v3 : Int32) (σ : gS) : Option (Int32 × gS) :=
  some (v3, σ)
set_option maxHeartbeats 4000000 in
set_option maxRecDepth 100000 in
theorem pX11_bounded_48 {E : gE} {p1 : Int32} {p2 : Int32} {r : Int32} {σ' : gS} {v3 : Int32} {σ : gS} (h : fX11_bounded_48 p1 p2 v3 σ = some (r, σ')) : gG E mX11_bounded 48 [(3, .int v3)] [] σ (some (.int r)) σ' := by
  unfold fX11_bounded_48 at h
  refine g_iload_n dX11_bounded_48 rfl 0 rfl ?_
  obtain ⟨rfl, rfl⟩ := so_inj h
  exact g_iret dX11_bounded_49 rfl
def fX11_bounded_32 (p1 : Int32) (p2 : Int32) (σ : gS) : Option (Int32 × gS) :=
  bd (fX11_good σ) fun x1 σ2 =>
  if x1 = 0 then
    fX11_bounded_48 p1 p2 (σ.1 168 48) σ2
  else
    bd (fX11_next σ2) fun _ σ5 =>
    fX11_bounded_48 p1 p2 (σ.1 168 48) σ5
set_option maxHeartbeats 4000000 in
set_option maxRecDepth 100000 in
theorem pX11_bounded_32 {E : gE} {p1 : Int32} {p2 : Int32} {r : Int32} {σ' : gS} {σ : gS} (h : fX11_bounded_32 p1 p2 σ = some (r, σ')) : gG E mX11_bounded 32 [(0, .ref 168)] [] σ (some (.int r)) σ' := by
  unfold fX11_bounded_32 at h
  refine g_aload_n dX11_bounded_32 rfl 0 rfl ?_
  refine g_getI dX11_bounded_33 gi_168 rfl fl_RX11_274 ?_
  refine g_istore_n (lv' := [(3, .int (σ.1 168 48)), (0, .ref 168)]) dX11_bounded_36 rfl (Nat.le_of_ble_eq_true rfl) rfl ?_
  refine g_aload_n dX11_bounded_37 rfl 1 rfl ?_
  obtain ⟨x1, σ2, y3, h⟩ := bd_some h
  refine g_callVr (as := []) (st := []) (zX11_good y3) dX11_bounded_38 gi_168 rfl okX11_bounded_282 (Nat.le_of_ble_eq_true rfl) ?_
  refine g_if_eq (t := 48) dX11_bounded_41 (by decide) (fun c4 => ?_) (fun c4 => ?_)
  · replace h := if_t h c4
    refine g_sub [0] rfl ?_
    exact pX11_bounded_48 h
  · replace h := if_f h c4
    refine g_aload_n dX11_bounded_44 rfl 1 rfl ?_
    obtain ⟨_, σ5, y6, h⟩ := bd_some h
    refine g_callVv (as := []) (st := []) (zX11_next y6) dX11_bounded_45 gi_168 rfl okX11_bounded_292 (Nat.le_of_ble_eq_true rfl) ?_
    refine g_sub [0] rfl ?_
    exact pX11_bounded_48 h
def fX11_bounded (p1 : Int32) (p2 : Int32) (σ : gS) : Option (Int32 × gS) :=
  bd (fX11_want 3 σ) fun _ σ1 =>
  bd (fX11_good σ1) fun x3 σ4 =>
  if x3 = 0 then
    fX11_bounded_32 p1 p2 σ4
  else
    bd (fX11_in ((σ4.1 168 48).toInt64) p1.toInt64 p2.toInt64 σ4) fun x7 σ8 =>
    if x7 = 0 then
      bd (fX11_bad 5 σ8) fun _ σ11 =>
      fX11_bounded_32 p1 p2 σ11
    else
      fX11_bounded_32 p1 p2 σ8
set_option maxHeartbeats 4000000 in
set_option maxRecDepth 100000 in
theorem pX11_bounded {E : gE} {p1 : Int32} {p2 : Int32} {r : Int32} {σ' : gS} {σ : gS} (h : fX11_bounded p1 p2 σ = some (r, σ')) : gG E mX11_bounded 0 [(0, .ref 168), (1, .int p1), (2, .int p2)] [] σ (some (.int r)) σ' := by
  unfold fX11_bounded at h
  refine g_aload_n dX11_bounded_0 rfl 0 rfl ?_
  refine g_iconst (v := 3) dX11_bounded_1 (by decide) ?_
  obtain ⟨_, σ1, y2, h⟩ := bd_some h
  refine g_callVv (as := [.int 3]) (st := []) (zX11_want y2) dX11_bounded_2 gi_168 rfl okX11_bounded_289 (Nat.le_of_ble_eq_true rfl) ?_
  refine g_aload_n dX11_bounded_5 rfl 0 rfl ?_
  obtain ⟨x3, σ4, y5, h⟩ := bd_some h
  refine g_callVr (as := []) (st := []) (zX11_good y5) dX11_bounded_6 gi_168 rfl okX11_bounded_282 (Nat.le_of_ble_eq_true rfl) ?_
  refine g_if_eq (t := 32) dX11_bounded_9 (by decide) (fun c6 => ?_) (fun c6 => ?_)
  · replace h := if_t h c6
    refine g_sub [0] rfl ?_
    exact pX11_bounded_32 h
  · replace h := if_f h c6
    refine g_aload_n dX11_bounded_12 rfl 0 rfl ?_
    refine g_getI dX11_bounded_13 gi_168 rfl fl_RX11_274 ?_
    refine g_i2l dX11_bounded_16 ?_
    refine g_iload_n dX11_bounded_17 rfl 1 rfl ?_
    refine g_i2l dX11_bounded_18 ?_
    refine g_iload_n dX11_bounded_19 rfl 2 rfl ?_
    refine g_i2l dX11_bounded_20 ?_
    obtain ⟨x7, σ8, y9, h⟩ := bd_some h
    refine g_callSr (as := [.long ((σ4.1 168 48).toInt64), .long p1.toInt64, .long p2.toInt64]) (st := []) (zX11_in y9) dX11_bounded_21 okX11_bounded_220 (Nat.le_of_ble_eq_true rfl) ?_
    refine g_if_ne (t := 32) dX11_bounded_24 (by decide) (fun c10 => ?_) (fun c10 => ?_)
    · replace h := if_f h c10
      refine g_sub [0] rfl ?_
      exact pX11_bounded_32 h
    · replace h := if_t h c10
      refine g_aload_n dX11_bounded_27 rfl 0 rfl ?_
      refine g_iconst (v := 5) dX11_bounded_28 (by decide) ?_
      obtain ⟨_, σ11, y12, h⟩ := bd_some h
      refine g_callVv (as := [.int 5]) (st := []) (zX11_bad y12) dX11_bounded_29 gi_168 rfl okX11_bounded_285 (Nat.le_of_ble_eq_true rfl) ?_
      refine g_sub [0] rfl ?_
      exact pX11_bounded_32 h
theorem zX11_bounded {E : gE} {p1 : Int32} {p2 : Int32} {r : Int32} {σ σ' : gS} (h : fX11_bounded p1 p2 σ = some (r, σ')) : gC E mX11_bounded [.ref 168, .int p1, .int p2] σ (some (.int r)) σ' :=
  gC_of (by decide +kernel) rfl (Nat.le_of_ble_eq_true rfl) (pX11_bounded h)
def mX11_stop : gM := (yX11_stop, cX11_stop, RX11, 1, none, 3, 72)
theorem dX11_stop_0 : decode mX11_stop.2.1 0 = .ok (.aload_n 0, 1) := by decide +kernel
theorem dX11_stop_1 : decode mX11_stop.2.1 1 = .ok (.iconst 4, 1) := by decide +kernel
theorem dX11_stop_2 : decode mX11_stop.2.1 2 = .ok (.invokevirtual 289, 3) := by decide +kernel
theorem dX11_stop_5 : decode mX11_stop.2.1 5 = .ok (.aload_n 0, 1) := by decide +kernel
theorem dX11_stop_6 : decode mX11_stop.2.1 6 = .ok (.invokevirtual 282, 3) := by decide +kernel
theorem dX11_stop_9 : decode mX11_stop.2.1 9 = .ok (.ifCond .eq 7, 3) := by decide +kernel
theorem dX11_stop_12 : decode mX11_stop.2.1 12 = .ok (.aload_n 0, 1) := by decide +kernel
theorem dX11_stop_13 : decode mX11_stop.2.1 13 = .ok (.invokevirtual 292, 3) := by decide +kernel
theorem dX11_stop_16 : decode mX11_stop.2.1 16 = .ok (.return_, 1) := by decide +kernel
theorem okX11_stop_289 : gOkV mX11_stop mX11_want 289 1 := ⟨List.forall_mem_cons.mpr ⟨(gm 1581 (by decide +kernel) rfl), List.forall_mem_cons.mpr ⟨(gm 1578 (by decide +kernel) rfl), List.forall_mem_cons.mpr ⟨(gm 1580 (by decide +kernel) rfl), List.forall_mem_cons.mpr ⟨(gm 62 (by decide +kernel) rfl), List.forall_mem_cons.mpr ⟨(gm 122 (by decide +kernel) rfl), fun _ h => absurd h List.not_mem_nil⟩⟩⟩⟩⟩, by decide +kernel, by decide +kernel, by decide +kernel⟩
theorem okX11_stop_282 : gOkV mX11_stop mX11_good 282 0 := ⟨List.forall_mem_cons.mpr ⟨(gm 1577 (by decide +kernel) rfl), List.forall_mem_cons.mpr ⟨(gm 1574 (by decide +kernel) rfl), List.forall_mem_cons.mpr ⟨(gm 1576 (by decide +kernel) rfl), List.forall_mem_cons.mpr ⟨(gm 61 (by decide +kernel) rfl), List.forall_mem_cons.mpr ⟨(gm 122 (by decide +kernel) rfl), fun _ h => absurd h List.not_mem_nil⟩⟩⟩⟩⟩, by decide +kernel, by decide +kernel, by decide +kernel⟩
theorem okX11_stop_292 : gOkV mX11_stop mX11_next 292 0 := ⟨List.forall_mem_cons.mpr ⟨(gm 1550 (by decide +kernel) rfl), List.forall_mem_cons.mpr ⟨(gm 1547 (by decide +kernel) rfl), List.forall_mem_cons.mpr ⟨(gm 1549 (by decide +kernel) rfl), List.forall_mem_cons.mpr ⟨(gm 57 (by decide +kernel) rfl), List.forall_mem_cons.mpr ⟨(gm 122 (by decide +kernel) rfl), fun _ h => absurd h List.not_mem_nil⟩⟩⟩⟩⟩, by decide +kernel, by decide +kernel, by decide +kernel⟩
def fX11_stop_16 (σ : gS) : Option (Unit × gS) :=
  some ((), σ)
set_option maxHeartbeats 4000000 in
set_option maxRecDepth 100000 in
theorem pX11_stop_16 {E : gE} {r : Unit} {σ' : gS} {σ : gS} (h : fX11_stop_16 σ = some (r, σ')) : gG E mX11_stop 16 [] [] σ (none) σ' := by
  unfold fX11_stop_16 at h
  obtain ⟨rfl, rfl⟩ := so_inj h
  exact g_vret dX11_stop_16 rfl
def fX11_stop (σ : gS) : Option (Unit × gS) :=
  bd (fX11_want 4 σ) fun _ σ1 =>
  bd (fX11_good σ1) fun x3 σ4 =>
  if x3 = 0 then
    fX11_stop_16 σ4
  else
    bd (fX11_next σ4) fun _ σ7 =>
    fX11_stop_16 σ7
set_option maxHeartbeats 4000000 in
set_option maxRecDepth 100000 in
theorem pX11_stop {E : gE} {r : Unit} {σ' : gS} {σ : gS} (h : fX11_stop σ = some (r, σ')) : gG E mX11_stop 0 [(0, .ref 168)] [] σ (none) σ' := by
  unfold fX11_stop at h
  refine g_aload_n dX11_stop_0 rfl 0 rfl ?_
  refine g_iconst (v := 4) dX11_stop_1 (by decide) ?_
  obtain ⟨_, σ1, y2, h⟩ := bd_some h
  refine g_callVv (as := [.int 4]) (st := []) (zX11_want y2) dX11_stop_2 gi_168 rfl okX11_stop_289 (Nat.le_of_ble_eq_true rfl) ?_
  refine g_aload_n dX11_stop_5 rfl 0 rfl ?_
  obtain ⟨x3, σ4, y5, h⟩ := bd_some h
  refine g_callVr (as := []) (st := []) (zX11_good y5) dX11_stop_6 gi_168 rfl okX11_stop_282 (Nat.le_of_ble_eq_true rfl) ?_
  refine g_if_eq (t := 16) dX11_stop_9 (by decide) (fun c6 => ?_) (fun c6 => ?_)
  · replace h := if_t h c6
    refine g_sub [] rfl ?_
    exact pX11_stop_16 h
  · replace h := if_f h c6
    refine g_aload_n dX11_stop_12 rfl 0 rfl ?_
    obtain ⟨_, σ7, y8, h⟩ := bd_some h
    refine g_callVv (as := []) (st := []) (zX11_next y8) dX11_stop_13 gi_168 rfl okX11_stop_292 (Nat.le_of_ble_eq_true rfl) ?_
    refine g_sub [] rfl ?_
    exact pX11_stop_16 h
theorem zX11_stop {E : gE} {r : Unit} {σ σ' : gS} (h : fX11_stop σ = some (r, σ')) : gC E mX11_stop [.ref 168] σ (none) σ' :=
  gC_of (by decide +kernel) rfl (Nat.le_of_ble_eq_true rfl) (pX11_stop h)
theorem fl_RX11_97 : gFl RX11 97 11 38 := ⟨RX11, TX11, 101, rfl, by decide, ux_11, Or.inl (gm 1266 (by decide +kernel) rfl)⟩
theorem fl_RX11_307 : gFl RX11 307 11 37 := ⟨RX11, TX11, 101, rfl, by decide, ux_11, Or.inl (gm 1265 (by decide +kernel) rfl)⟩
theorem fl_RX11_100 : gFl RX11 100 11 39 := ⟨RX11, TX11, 101, rfl, by decide, ux_11, Or.inl (gm 1267 (by decide +kernel) rfl)⟩
theorem fp_RX11_307 : gFp RX11 307 11 37 .int := ⟨RX11, TX11, 101, rfl, by decide, ux_11, Or.inl (gm 1265 (by decide +kernel) rfl), rfl, by decide +kernel, ⟨tyX11, tyX11_ok⟩, nmX11⟩
def mX11_addPart : gM := (yX11_addPart, cX11_addPart, RX11, 3, none, 0, 0)
theorem dX11_addPart_0 : decode mX11_addPart.2.1 0 = .ok (.aload_n 0, 1) := by decide +kernel
theorem dX11_addPart_1 : decode mX11_addPart.2.1 1 = .ok (.getfield 97, 3) := by decide +kernel
theorem dX11_addPart_4 : decode mX11_addPart.2.1 4 = .ok (.aload_n 0, 1) := by decide +kernel
theorem dX11_addPart_5 : decode mX11_addPart.2.1 5 = .ok (.getfield 307, 3) := by decide +kernel
theorem dX11_addPart_8 : decode mX11_addPart.2.1 8 = .ok (.iload_n 1, 1) := by decide +kernel
theorem dX11_addPart_9 : decode mX11_addPart.2.1 9 = .ok (.iastore, 1) := by decide +kernel
theorem dX11_addPart_10 : decode mX11_addPart.2.1 10 = .ok (.aload_n 0, 1) := by decide +kernel
theorem dX11_addPart_11 : decode mX11_addPart.2.1 11 = .ok (.getfield 100, 3) := by decide +kernel
theorem dX11_addPart_14 : decode mX11_addPart.2.1 14 = .ok (.aload_n 0, 1) := by decide +kernel
theorem dX11_addPart_15 : decode mX11_addPart.2.1 15 = .ok (.getfield 307, 3) := by decide +kernel
theorem dX11_addPart_18 : decode mX11_addPart.2.1 18 = .ok (.iload_n 2, 1) := by decide +kernel
theorem dX11_addPart_19 : decode mX11_addPart.2.1 19 = .ok (.iastore, 1) := by decide +kernel
theorem dX11_addPart_20 : decode mX11_addPart.2.1 20 = .ok (.aload_n 0, 1) := by decide +kernel
theorem dX11_addPart_21 : decode mX11_addPart.2.1 21 = .ok (.dup, 1) := by decide +kernel
theorem dX11_addPart_22 : decode mX11_addPart.2.1 22 = .ok (.getfield 307, 3) := by decide +kernel
theorem dX11_addPart_25 : decode mX11_addPart.2.1 25 = .ok (.iconst 1, 1) := by decide +kernel
theorem dX11_addPart_26 : decode mX11_addPart.2.1 26 = .ok (.iadd, 1) := by decide +kernel
theorem dX11_addPart_27 : decode mX11_addPart.2.1 27 = .ok (.putfield 307, 3) := by decide +kernel
theorem dX11_addPart_30 : decode mX11_addPart.2.1 30 = .ok (.return_, 1) := by decide +kernel
def fX11_addPart (p1 : Int32) (p2 : Int32) (σ : gS) : Option (Unit × gS) :=
  gg (¬ (σ.1 168 37 < 0 ∨ 130 ≤ (σ.1 168 37).toNatClampNeg)) (
  bnd (gsI σ 195 ((σ.1 168 37).toNatClampNeg) p1) fun σ2 =>
  gg (¬ (σ2.1 168 37 < 0 ∨ 130 ≤ (σ2.1 168 37).toNatClampNeg)) (
  bnd (gsI σ2 196 ((σ2.1 168 37).toNatClampNeg) p2) fun σ4 =>
  bnd (gsI σ4 168 37 ((σ4.1 168 37) + 1)) fun σ5 =>
  some ((), σ5)))
set_option maxHeartbeats 4000000 in
set_option maxRecDepth 100000 in
theorem pX11_addPart {E : gE} {p1 : Int32} {p2 : Int32} {r : Unit} {σ' : gS} {σ : gS} (h : fX11_addPart p1 p2 σ = some (r, σ')) : gG E mX11_addPart 0 [(0, .ref 168), (1, .int p1), (2, .int p2)] [] σ (none) σ' := by
  unfold fX11_addPart at h
  refine g_aload_n dX11_addPart_0 rfl 0 rfl ?_
  refine g_getC (n := 195) dX11_addPart_1 gi_168 rfl fl_RX11_97 ?_
  refine g_aload_n dX11_addPart_4 rfl 0 rfl ?_
  refine g_getI dX11_addPart_5 gi_168 rfl fl_RX11_307 ?_
  refine g_iload_n dX11_addPart_8 rfl 1 rfl ?_
  obtain ⟨g1, h⟩ := gg_some h
  obtain ⟨σ2, eσ2, h⟩ := bnd_nm h
  refine g_iast dX11_addPart_9 gi_195 g1 (g_st eσ2 ?_)
  refine g_aload_n dX11_addPart_10 rfl 0 rfl ?_
  refine g_getC (n := 196) dX11_addPart_11 gi_168 rfl fl_RX11_100 ?_
  refine g_aload_n dX11_addPart_14 rfl 0 rfl ?_
  refine g_getI dX11_addPart_15 gi_168 rfl fl_RX11_307 ?_
  refine g_iload_n dX11_addPart_18 rfl 2 rfl ?_
  obtain ⟨g3, h⟩ := gg_some h
  obtain ⟨σ4, eσ4, h⟩ := bnd_nm h
  refine g_iast dX11_addPart_19 gi_196 g3 (g_st eσ4 ?_)
  refine g_aload_n dX11_addPart_20 rfl 0 rfl ?_
  refine g_dup dX11_addPart_21 rfl ?_
  refine g_getI dX11_addPart_22 gi_168 rfl fl_RX11_307 ?_
  refine g_iconst (v := 1) dX11_addPart_25 (by decide) ?_
  refine g_iadd dX11_addPart_26 ?_
  obtain ⟨σ5, eσ5, h⟩ := bnd_nm h
  refine g_putI dX11_addPart_27 gi_168 rfl fp_RX11_307 (g_st eσ5 ?_)
  obtain ⟨rfl, rfl⟩ := so_inj h
  exact g_vret dX11_addPart_30 rfl
theorem zX11_addPart {E : gE} {p1 : Int32} {p2 : Int32} {r : Unit} {σ σ' : gS} (h : fX11_addPart p1 p2 σ = some (r, σ')) : gC E mX11_addPart [.ref 168, .int p1, .int p2] σ (none) σ' :=
  gC_of (by decide +kernel) rfl (Nat.le_of_ble_eq_true rfl) (pX11_addPart h)
theorem fl_RX11_64 : gFl RX11 64 11 23 := ⟨RX11, TX11, 101, rfl, by decide, ux_11, Or.inl (gm 1251 (by decide +kernel) rfl)⟩
theorem fl_RX11_67 : gFl RX11 67 11 24 := ⟨RX11, TX11, 101, rfl, by decide, ux_11, Or.inl (gm 1252 (by decide +kernel) rfl)⟩
theorem fl_RX11_70 : gFl RX11 70 11 25 := ⟨RX11, TX11, 101, rfl, by decide, ux_11, Or.inl (gm 1253 (by decide +kernel) rfl)⟩
theorem fp_RX11_295 : gFp RX11 295 11 21 .int := ⟨RX11, TX11, 101, rfl, by decide, ux_11, Or.inl (gm 1249 (by decide +kernel) rfl), rfl, by decide +kernel, ⟨tyX11, tyX11_ok⟩, nmX11⟩
def mX11_readJoint : gM := (yX11_readJoint, cX11_readJoint, RX11, 2, none, 4, 95)
theorem dX11_readJoint_0 : decode mX11_readJoint.2.1 0 = .ok (.aload_n 0, 1) := by decide +kernel
theorem dX11_readJoint_1 : decode mX11_readJoint.2.1 1 = .ok (.aload_n 0, 1) := by decide +kernel
theorem dX11_readJoint_2 : decode mX11_readJoint.2.1 2 = .ok (.getfield 295, 3) := by decide +kernel
theorem dX11_readJoint_5 : decode mX11_readJoint.2.1 5 = .ok (.bipush 24, 2) := by decide +kernel
theorem dX11_readJoint_7 : decode mX11_readJoint.2.1 7 = .ok (.if_icmp .ne 7, 3) := by decide +kernel
theorem dX11_readJoint_10 : decode mX11_readJoint.2.1 10 = .ok (.iconst 1, 1) := by decide +kernel
theorem dX11_readJoint_11 : decode mX11_readJoint.2.1 11 = .ok (.goto 4, 3) := by decide +kernel
theorem dX11_readJoint_14 : decode mX11_readJoint.2.1 14 = .ok (.iconst 0, 1) := by decide +kernel
theorem dX11_readJoint_15 : decode mX11_readJoint.2.1 15 = .ok (.invokevirtual 310, 3) := by decide +kernel
theorem dX11_readJoint_18 : decode mX11_readJoint.2.1 18 = .ok (.aload_n 0, 1) := by decide +kernel
theorem dX11_readJoint_19 : decode mX11_readJoint.2.1 19 = .ok (.invokevirtual 282, 3) := by decide +kernel
theorem dX11_readJoint_22 : decode mX11_readJoint.2.1 22 = .ok (.ifCond .ne 4, 3) := by decide +kernel
theorem dX11_readJoint_25 : decode mX11_readJoint.2.1 25 = .ok (.return_, 1) := by decide +kernel
theorem dX11_readJoint_26 : decode mX11_readJoint.2.1 26 = .ok (.aload_n 0, 1) := by decide +kernel
theorem dX11_readJoint_27 : decode mX11_readJoint.2.1 27 = .ok (.getfield 61, 3) := by decide +kernel
theorem dX11_readJoint_30 : decode mX11_readJoint.2.1 30 = .ok (.aload_n 0, 1) := by decide +kernel
theorem dX11_readJoint_31 : decode mX11_readJoint.2.1 31 = .ok (.getfield 295, 3) := by decide +kernel
theorem dX11_readJoint_34 : decode mX11_readJoint.2.1 34 = .ok (.aload_n 0, 1) := by decide +kernel
theorem dX11_readJoint_35 : decode mX11_readJoint.2.1 35 = .ok (.getfield 260, 3) := by decide +kernel
theorem dX11_readJoint_38 : decode mX11_readJoint.2.1 38 = .ok (.lastore, 1) := by decide +kernel
theorem dX11_readJoint_39 : decode mX11_readJoint.2.1 39 = .ok (.aload_n 0, 1) := by decide +kernel
theorem dX11_readJoint_40 : decode mX11_readJoint.2.1 40 = .ok (.getfield 70, 3) := by decide +kernel
theorem dX11_readJoint_43 : decode mX11_readJoint.2.1 43 = .ok (.aload_n 0, 1) := by decide +kernel
theorem dX11_readJoint_44 : decode mX11_readJoint.2.1 44 = .ok (.getfield 295, 3) := by decide +kernel
theorem dX11_readJoint_47 : decode mX11_readJoint.2.1 47 = .ok (.iload_n 1, 1) := by decide +kernel
theorem dX11_readJoint_48 : decode mX11_readJoint.2.1 48 = .ok (.bastore, 1) := by decide +kernel
theorem dX11_readJoint_49 : decode mX11_readJoint.2.1 49 = .ok (.aload_n 0, 1) := by decide +kernel
theorem dX11_readJoint_50 : decode mX11_readJoint.2.1 50 = .ok (.dup, 1) := by decide +kernel
theorem dX11_readJoint_51 : decode mX11_readJoint.2.1 51 = .ok (.getfield 295, 3) := by decide +kernel
theorem dX11_readJoint_54 : decode mX11_readJoint.2.1 54 = .ok (.iconst 1, 1) := by decide +kernel
theorem dX11_readJoint_55 : decode mX11_readJoint.2.1 55 = .ok (.iadd, 1) := by decide +kernel
theorem dX11_readJoint_56 : decode mX11_readJoint.2.1 56 = .ok (.putfield 295, 3) := by decide +kernel
theorem dX11_readJoint_59 : decode mX11_readJoint.2.1 59 = .ok (.aload_n 0, 1) := by decide +kernel
theorem dX11_readJoint_60 : decode mX11_readJoint.2.1 60 = .ok (.iload_n 1, 1) := by decide +kernel
theorem dX11_readJoint_61 : decode mX11_readJoint.2.1 61 = .ok (.ifCond .eq 7, 3) := by decide +kernel
theorem dX11_readJoint_64 : decode mX11_readJoint.2.1 64 = .ok (.iconst 1, 1) := by decide +kernel
theorem dX11_readJoint_65 : decode mX11_readJoint.2.1 65 = .ok (.goto 4, 3) := by decide +kernel
theorem dX11_readJoint_68 : decode mX11_readJoint.2.1 68 = .ok (.iconst 0, 1) := by decide +kernel
theorem dX11_readJoint_69 : decode mX11_readJoint.2.1 69 = .ok (.aload_n 0, 1) := by decide +kernel
theorem dX11_readJoint_70 : decode mX11_readJoint.2.1 70 = .ok (.getfield 295, 3) := by decide +kernel
theorem dX11_readJoint_73 : decode mX11_readJoint.2.1 73 = .ok (.iconst 1, 1) := by decide +kernel
theorem dX11_readJoint_74 : decode mX11_readJoint.2.1 74 = .ok (.isub, 1) := by decide +kernel
theorem dX11_readJoint_75 : decode mX11_readJoint.2.1 75 = .ok (.invokevirtual 314, 3) := by decide +kernel
theorem dX11_readJoint_78 : decode mX11_readJoint.2.1 78 = .ok (.aload_n 0, 1) := by decide +kernel
theorem dX11_readJoint_79 : decode mX11_readJoint.2.1 79 = .ok (.invokevirtual 292, 3) := by decide +kernel
theorem dX11_readJoint_82 : decode mX11_readJoint.2.1 82 = .ok (.aload_n 0, 1) := by decide +kernel
theorem dX11_readJoint_83 : decode mX11_readJoint.2.1 83 = .ok (.getfield 64, 3) := by decide +kernel
theorem dX11_readJoint_86 : decode mX11_readJoint.2.1 86 = .ok (.aload_n 0, 1) := by decide +kernel
theorem dX11_readJoint_87 : decode mX11_readJoint.2.1 87 = .ok (.getfield 295, 3) := by decide +kernel
theorem dX11_readJoint_90 : decode mX11_readJoint.2.1 90 = .ok (.iconst 1, 1) := by decide +kernel
theorem dX11_readJoint_91 : decode mX11_readJoint.2.1 91 = .ok (.isub, 1) := by decide +kernel
theorem dX11_readJoint_92 : decode mX11_readJoint.2.1 92 = .ok (.aload_n 0, 1) := by decide +kernel
theorem dX11_readJoint_93 : decode mX11_readJoint.2.1 93 = .ok (.sipush (-1000), 3) := by decide +kernel
theorem dX11_readJoint_96 : decode mX11_readJoint.2.1 96 = .ok (.sipush 1000, 3) := by decide +kernel
theorem dX11_readJoint_99 : decode mX11_readJoint.2.1 99 = .ok (.invokevirtual 318, 3) := by decide +kernel
theorem dX11_readJoint_102 : decode mX11_readJoint.2.1 102 = .ok (.iastore, 1) := by decide +kernel
theorem dX11_readJoint_103 : decode mX11_readJoint.2.1 103 = .ok (.aload_n 0, 1) := by decide +kernel
theorem dX11_readJoint_104 : decode mX11_readJoint.2.1 104 = .ok (.getfield 67, 3) := by decide +kernel
theorem dX11_readJoint_107 : decode mX11_readJoint.2.1 107 = .ok (.aload_n 0, 1) := by decide +kernel
theorem dX11_readJoint_108 : decode mX11_readJoint.2.1 108 = .ok (.getfield 295, 3) := by decide +kernel
theorem dX11_readJoint_111 : decode mX11_readJoint.2.1 111 = .ok (.iconst 1, 1) := by decide +kernel
theorem dX11_readJoint_112 : decode mX11_readJoint.2.1 112 = .ok (.isub, 1) := by decide +kernel
theorem dX11_readJoint_113 : decode mX11_readJoint.2.1 113 = .ok (.aload_n 0, 1) := by decide +kernel
theorem dX11_readJoint_114 : decode mX11_readJoint.2.1 114 = .ok (.sipush (-1000), 3) := by decide +kernel
theorem dX11_readJoint_117 : decode mX11_readJoint.2.1 117 = .ok (.sipush 1000, 3) := by decide +kernel
theorem dX11_readJoint_120 : decode mX11_readJoint.2.1 120 = .ok (.invokevirtual 318, 3) := by decide +kernel
theorem dX11_readJoint_123 : decode mX11_readJoint.2.1 123 = .ok (.iastore, 1) := by decide +kernel
theorem dX11_readJoint_124 : decode mX11_readJoint.2.1 124 = .ok (.aload_n 0, 1) := by decide +kernel
theorem dX11_readJoint_125 : decode mX11_readJoint.2.1 125 = .ok (.invokevirtual 322, 3) := by decide +kernel
theorem dX11_readJoint_128 : decode mX11_readJoint.2.1 128 = .ok (.return_, 1) := by decide +kernel
theorem okX11_readJoint_314 : gOkV mX11_readJoint mX11_addPart 314 2 := ⟨List.forall_mem_cons.mpr ⟨(gm 1605 (by decide +kernel) rfl), List.forall_mem_cons.mpr ⟨(gm 1602 (by decide +kernel) rfl), List.forall_mem_cons.mpr ⟨(gm 1604 (by decide +kernel) rfl), List.forall_mem_cons.mpr ⟨(gm 68 (by decide +kernel) rfl), List.forall_mem_cons.mpr ⟨(gm 122 (by decide +kernel) rfl), fun _ h => absurd h List.not_mem_nil⟩⟩⟩⟩⟩, by decide +kernel, by decide +kernel, by decide +kernel⟩
theorem okX11_readJoint_292 : gOkV mX11_readJoint mX11_next 292 0 := ⟨List.forall_mem_cons.mpr ⟨(gm 1550 (by decide +kernel) rfl), List.forall_mem_cons.mpr ⟨(gm 1547 (by decide +kernel) rfl), List.forall_mem_cons.mpr ⟨(gm 1549 (by decide +kernel) rfl), List.forall_mem_cons.mpr ⟨(gm 57 (by decide +kernel) rfl), List.forall_mem_cons.mpr ⟨(gm 122 (by decide +kernel) rfl), fun _ h => absurd h List.not_mem_nil⟩⟩⟩⟩⟩, by decide +kernel, by decide +kernel, by decide +kernel⟩
theorem okX11_readJoint_318 : gOkV mX11_readJoint mX11_bounded 318 2 := ⟨List.forall_mem_cons.mpr ⟨(gm 1609 (by decide +kernel) rfl), List.forall_mem_cons.mpr ⟨(gm 1606 (by decide +kernel) rfl), List.forall_mem_cons.mpr ⟨(gm 1608 (by decide +kernel) rfl), List.forall_mem_cons.mpr ⟨(gm 69 (by decide +kernel) rfl), List.forall_mem_cons.mpr ⟨(gm 122 (by decide +kernel) rfl), fun _ h => absurd h List.not_mem_nil⟩⟩⟩⟩⟩, by decide +kernel, by decide +kernel, by decide +kernel⟩
theorem okX11_readJoint_322 : gOkV mX11_readJoint mX11_stop 322 0 := ⟨List.forall_mem_cons.mpr ⟨(gm 1613 (by decide +kernel) rfl), List.forall_mem_cons.mpr ⟨(gm 1610 (by decide +kernel) rfl), List.forall_mem_cons.mpr ⟨(gm 1612 (by decide +kernel) rfl), List.forall_mem_cons.mpr ⟨(gm 70 (by decide +kernel) rfl), List.forall_mem_cons.mpr ⟨(gm 122 (by decide +kernel) rfl), fun _ h => absurd h List.not_mem_nil⟩⟩⟩⟩⟩, by decide +kernel, by decide +kernel, by decide +kernel⟩
theorem okX11_readJoint_310 : gOkV mX11_readJoint mX11_newName 310 1 := ⟨List.forall_mem_cons.mpr ⟨(gm 1593 (by decide +kernel) rfl), List.forall_mem_cons.mpr ⟨(gm 1590 (by decide +kernel) rfl), List.forall_mem_cons.mpr ⟨(gm 1592 (by decide +kernel) rfl), List.forall_mem_cons.mpr ⟨(gm 65 (by decide +kernel) rfl), List.forall_mem_cons.mpr ⟨(gm 122 (by decide +kernel) rfl), fun _ h => absurd h List.not_mem_nil⟩⟩⟩⟩⟩, by decide +kernel, by decide +kernel, by decide +kernel⟩
theorem okX11_readJoint_282 : gOkV mX11_readJoint mX11_good 282 0 := ⟨List.forall_mem_cons.mpr ⟨(gm 1577 (by decide +kernel) rfl), List.forall_mem_cons.mpr ⟨(gm 1574 (by decide +kernel) rfl), List.forall_mem_cons.mpr ⟨(gm 1576 (by decide +kernel) rfl), List.forall_mem_cons.mpr ⟨(gm 61 (by decide +kernel) rfl), List.forall_mem_cons.mpr ⟨(gm 122 (by decide +kernel) rfl), fun _ h => absurd h List.not_mem_nil⟩⟩⟩⟩⟩, by decide +kernel, by decide +kernel, by decide +kernel⟩
def fX11_readJoint_69 (p1 : Int32) (s1 : Int32) (σ : gS) : Option (Unit × gS) :=
  bd (fX11_addPart s1 ((σ.1 168 21) - 1) σ) fun _ σ1 =>
  bd (fX11_next σ1) fun _ σ3 =>
  bd (fX11_bounded (-1000) 1000 σ3) fun x5 σ6 =>
  gg (¬ ((σ3.1 168 21) - 1 < 0 ∨ 24 ≤ ((σ3.1 168 21) - 1).toNatClampNeg)) (
  bnd (gsI σ6 184 (((σ3.1 168 21) - 1).toNatClampNeg) x5) fun σ9 =>
  bd (fX11_bounded (-1000) 1000 σ9) fun x10 σ11 =>
  gg (¬ ((σ9.1 168 21) - 1 < 0 ∨ 24 ≤ ((σ9.1 168 21) - 1).toNatClampNeg)) (
  bnd (gsI σ11 185 (((σ9.1 168 21) - 1).toNatClampNeg) x10) fun σ14 =>
  bd (fX11_stop σ14) fun _ σ15 =>
  some ((), σ15)))
set_option maxHeartbeats 4000000 in
set_option maxRecDepth 100000 in
theorem pX11_readJoint_69 {E : gE} {p1 : Int32} {r : Unit} {σ' : gS} {s1 : Int32} {σ : gS} (h : fX11_readJoint_69 p1 s1 σ = some (r, σ')) : gG E mX11_readJoint 69 [(0, .ref 168)] [.int s1, .ref 168] σ (none) σ' := by
  unfold fX11_readJoint_69 at h
  refine g_aload_n dX11_readJoint_69 rfl 0 rfl ?_
  refine g_getI dX11_readJoint_70 gi_168 rfl fl_RX11_295 ?_
  refine g_iconst (v := 1) dX11_readJoint_73 (by decide) ?_
  refine g_isub dX11_readJoint_74 ?_
  obtain ⟨_, σ1, y2, h⟩ := bd_some h
  refine g_callVv (as := [.int s1, .int ((σ.1 168 21) - 1)]) (st := []) (zX11_addPart y2) dX11_readJoint_75 gi_168 rfl okX11_readJoint_314 (Nat.le_of_ble_eq_true rfl) ?_
  refine g_aload_n dX11_readJoint_78 rfl 0 rfl ?_
  obtain ⟨_, σ3, y4, h⟩ := bd_some h
  refine g_callVv (as := []) (st := []) (zX11_next y4) dX11_readJoint_79 gi_168 rfl okX11_readJoint_292 (Nat.le_of_ble_eq_true rfl) ?_
  refine g_aload_n dX11_readJoint_82 rfl 0 rfl ?_
  refine g_getC (n := 184) dX11_readJoint_83 gi_168 rfl fl_RX11_64 ?_
  refine g_aload_n dX11_readJoint_86 rfl 0 rfl ?_
  refine g_getI dX11_readJoint_87 gi_168 rfl fl_RX11_295 ?_
  refine g_iconst (v := 1) dX11_readJoint_90 (by decide) ?_
  refine g_isub dX11_readJoint_91 ?_
  refine g_aload_n dX11_readJoint_92 rfl 0 rfl ?_
  refine g_sipush (v := (-1000)) dX11_readJoint_93 (by decide) ?_
  refine g_sipush (v := 1000) dX11_readJoint_96 (by decide) ?_
  obtain ⟨x5, σ6, y7, h⟩ := bd_some h
  refine g_callVr (as := [.int (-1000), .int 1000]) (st := [.int ((σ3.1 168 21) - 1), .ref 184]) (zX11_bounded y7) dX11_readJoint_99 gi_168 rfl okX11_readJoint_318 (Nat.le_of_ble_eq_true rfl) ?_
  obtain ⟨g8, h⟩ := gg_some h
  obtain ⟨σ9, eσ9, h⟩ := bnd_nm h
  refine g_iast dX11_readJoint_102 gi_184 g8 (g_st eσ9 ?_)
  refine g_aload_n dX11_readJoint_103 rfl 0 rfl ?_
  refine g_getC (n := 185) dX11_readJoint_104 gi_168 rfl fl_RX11_67 ?_
  refine g_aload_n dX11_readJoint_107 rfl 0 rfl ?_
  refine g_getI dX11_readJoint_108 gi_168 rfl fl_RX11_295 ?_
  refine g_iconst (v := 1) dX11_readJoint_111 (by decide) ?_
  refine g_isub dX11_readJoint_112 ?_
  refine g_aload_n dX11_readJoint_113 rfl 0 rfl ?_
  refine g_sipush (v := (-1000)) dX11_readJoint_114 (by decide) ?_
  refine g_sipush (v := 1000) dX11_readJoint_117 (by decide) ?_
  obtain ⟨x10, σ11, y12, h⟩ := bd_some h
  refine g_callVr (as := [.int (-1000), .int 1000]) (st := [.int ((σ9.1 168 21) - 1), .ref 185]) (zX11_bounded y12) dX11_readJoint_120 gi_168 rfl okX11_readJoint_318 (Nat.le_of_ble_eq_true rfl) ?_
  obtain ⟨g13, h⟩ := gg_some h
  obtain ⟨σ14, eσ14, h⟩ := bnd_nm h
  refine g_iast dX11_readJoint_123 gi_185 g13 (g_st eσ14 ?_)
  refine g_aload_n dX11_readJoint_124 rfl 0 rfl ?_
  obtain ⟨_, σ15, y16, h⟩ := bd_some h
  refine g_callVv (as := []) (st := []) (zX11_stop y16) dX11_readJoint_125 gi_168 rfl okX11_readJoint_322 (Nat.le_of_ble_eq_true rfl) ?_
  obtain ⟨rfl, rfl⟩ := so_inj h
  exact g_vret dX11_readJoint_128 rfl
def fX11_readJoint_15 (p1 : Int32) (s1 : Int32) (σ : gS) : Option (Unit × gS) :=
  bd (fX11_newName s1 σ) fun _ σ1 =>
  bd (fX11_good σ1) fun x3 σ4 =>
  if x3 = 0 then
    some ((), σ4)
  else
    gg (¬ (σ4.1 168 21 < 0 ∨ 24 ≤ (σ4.1 168 21).toNatClampNeg)) (
    bnd (gsJ σ4 183 ((σ4.1 168 21).toNatClampNeg) (σ4.2.1 168 47)) fun σ8 =>
    gg (¬ (σ8.1 168 21 < 0 ∨ 24 ≤ (σ8.1 168 21).toNatClampNeg)) (
    bnd (gsI σ8 186 ((σ8.1 168 21).toNatClampNeg) (vp_nar .boolean p1)) fun σ10 =>
    bnd (gsI σ10 168 21 ((σ10.1 168 21) + 1)) fun σ11 =>
    if p1 = 0 then
      fX11_readJoint_69 p1 0 σ11
    else
      fX11_readJoint_69 p1 1 σ11))
set_option maxHeartbeats 4000000 in
set_option maxRecDepth 100000 in
theorem pX11_readJoint_15 {E : gE} {p1 : Int32} {r : Unit} {σ' : gS} {s1 : Int32} {σ : gS} (h : fX11_readJoint_15 p1 s1 σ = some (r, σ')) : gG E mX11_readJoint 15 [(0, .ref 168), (1, .int p1)] [.int s1, .ref 168] σ (none) σ' := by
  unfold fX11_readJoint_15 at h
  obtain ⟨_, σ1, y2, h⟩ := bd_some h
  refine g_callVv (as := [.int s1]) (st := []) (zX11_newName y2) dX11_readJoint_15 gi_168 rfl okX11_readJoint_310 (Nat.le_of_ble_eq_true rfl) ?_
  refine g_aload_n dX11_readJoint_18 rfl 0 rfl ?_
  obtain ⟨x3, σ4, y5, h⟩ := bd_some h
  refine g_callVr (as := []) (st := []) (zX11_good y5) dX11_readJoint_19 gi_168 rfl okX11_readJoint_282 (Nat.le_of_ble_eq_true rfl) ?_
  refine g_if_ne (t := 26) dX11_readJoint_22 (by decide) (fun c6 => ?_) (fun c6 => ?_)
  · replace h := if_f h c6
    refine g_aload_n dX11_readJoint_26 rfl 0 rfl ?_
    refine g_getC (n := 183) dX11_readJoint_27 gi_168 rfl fl_RX11_61 ?_
    refine g_aload_n dX11_readJoint_30 rfl 0 rfl ?_
    refine g_getI dX11_readJoint_31 gi_168 rfl fl_RX11_295 ?_
    refine g_aload_n dX11_readJoint_34 rfl 0 rfl ?_
    refine g_getJ dX11_readJoint_35 gi_168 rfl fl_RX11_260 ?_
    obtain ⟨g7, h⟩ := gg_some h
    obtain ⟨σ8, eσ8, h⟩ := bnd_nm h
    refine g_last dX11_readJoint_38 gi_183 g7 (g_st eσ8 ?_)
    refine g_aload_n dX11_readJoint_39 rfl 0 rfl ?_
    refine g_getC (n := 186) dX11_readJoint_40 gi_168 rfl fl_RX11_70 ?_
    refine g_aload_n dX11_readJoint_43 rfl 0 rfl ?_
    refine g_getI dX11_readJoint_44 gi_168 rfl fl_RX11_295 ?_
    refine g_iload_n dX11_readJoint_47 rfl 1 rfl ?_
    obtain ⟨g9, h⟩ := gg_some h
    obtain ⟨σ10, eσ10, h⟩ := bnd_nm h
    refine g_zast dX11_readJoint_48 gi_186 g9 (g_st eσ10 ?_)
    refine g_aload_n dX11_readJoint_49 rfl 0 rfl ?_
    refine g_dup dX11_readJoint_50 rfl ?_
    refine g_getI dX11_readJoint_51 gi_168 rfl fl_RX11_295 ?_
    refine g_iconst (v := 1) dX11_readJoint_54 (by decide) ?_
    refine g_iadd dX11_readJoint_55 ?_
    obtain ⟨σ11, eσ11, h⟩ := bnd_nm h
    refine g_putI dX11_readJoint_56 gi_168 rfl fp_RX11_295 (g_st eσ11 ?_)
    refine g_aload_n dX11_readJoint_59 rfl 0 rfl ?_
    refine g_iload_n dX11_readJoint_60 rfl 1 rfl ?_
    refine g_if_eq (t := 68) dX11_readJoint_61 (by decide) (fun c12 => ?_) (fun c12 => ?_)
    · replace h := if_t h c12
      refine g_iconst (v := 0) dX11_readJoint_68 (by decide) ?_
      refine g_sub [0] rfl ?_
      exact pX11_readJoint_69 h
    · replace h := if_f h c12
      refine g_iconst (v := 1) dX11_readJoint_64 (by decide) ?_
      refine g_goto (t := 69) dX11_readJoint_65 (by decide) ?_
      refine g_sub [0] rfl ?_
      exact pX11_readJoint_69 h
  · replace h := if_t h c6
    obtain ⟨rfl, rfl⟩ := so_inj h
    exact g_vret dX11_readJoint_25 rfl
def fX11_readJoint (p1 : Int32) (σ : gS) : Option (Unit × gS) :=
  if (σ.1 168 21) = 24 then
    fX11_readJoint_15 p1 1 σ
  else
    fX11_readJoint_15 p1 0 σ
set_option maxHeartbeats 4000000 in
set_option maxRecDepth 100000 in
theorem pX11_readJoint {E : gE} {p1 : Int32} {r : Unit} {σ' : gS} {σ : gS} (h : fX11_readJoint p1 σ = some (r, σ')) : gG E mX11_readJoint 0 [(0, .ref 168), (1, .int p1)] [] σ (none) σ' := by
  unfold fX11_readJoint at h
  refine g_aload_n dX11_readJoint_0 rfl 0 rfl ?_
  refine g_aload_n dX11_readJoint_1 rfl 0 rfl ?_
  refine g_getI dX11_readJoint_2 gi_168 rfl fl_RX11_295 ?_
  refine g_bipush (v := 24) dX11_readJoint_5 (by decide) ?_
  refine g_icmp_ne (t := 14) dX11_readJoint_7 (by decide) (fun c1 => ?_) (fun c1 => ?_)
  · replace h := if_f h c1
    refine g_iconst (v := 0) dX11_readJoint_14 (by decide) ?_
    exact pX11_readJoint_15 h
  · replace h := if_t h c1
    refine g_iconst (v := 1) dX11_readJoint_10 (by decide) ?_
    refine g_goto (t := 15) dX11_readJoint_11 (by decide) ?_
    exact pX11_readJoint_15 h
theorem zX11_readJoint {E : gE} {p1 : Int32} {r : Unit} {σ σ' : gS} (h : fX11_readJoint p1 σ = some (r, σ')) : gC E mX11_readJoint [.ref 168, .int p1] σ (none) σ' :=
  gC_of (by decide +kernel) rfl (Nat.le_of_ble_eq_true rfl) (pX11_readJoint h)
theorem fl_RX11_82 : gFl RX11 82 11 31 := ⟨RX11, TX11, 101, rfl, by decide, ux_11, Or.inl (gm 1259 (by decide +kernel) rfl)⟩
theorem fl_RX11_85 : gFl RX11 85 11 32 := ⟨RX11, TX11, 101, rfl, by decide, ux_11, Or.inl (gm 1260 (by decide +kernel) rfl)⟩
theorem fl_RX11_325 : gFl RX11 325 11 30 := ⟨RX11, TX11, 101, rfl, by decide, ux_11, Or.inl (gm 1258 (by decide +kernel) rfl)⟩
def mX11_hasBar : gM := (yX11_hasBar, cX11_hasBar, RX11, 4, (some .boolean), 0, 0)
theorem dX11_hasBar_0 : decode mX11_hasBar.2.1 0 = .ok (.iconst 0, 1) := by decide +kernel
theorem dX11_hasBar_1 : decode mX11_hasBar.2.1 1 = .ok (.istore_n 3, 1) := by decide +kernel
theorem dX11_hasBar_2 : decode mX11_hasBar.2.1 2 = .ok (.iload_n 3, 1) := by decide +kernel
theorem dX11_hasBar_3 : decode mX11_hasBar.2.1 3 = .ok (.aload_n 0, 1) := by decide +kernel
theorem dX11_hasBar_4 : decode mX11_hasBar.2.1 4 = .ok (.getfield 325, 3) := by decide +kernel
theorem dX11_hasBar_7 : decode mX11_hasBar.2.1 7 = .ok (.if_icmp .ge 51, 3) := by decide +kernel
theorem dX11_hasBar_10 : decode mX11_hasBar.2.1 10 = .ok (.aload_n 0, 1) := by decide +kernel
theorem dX11_hasBar_11 : decode mX11_hasBar.2.1 11 = .ok (.getfield 82, 3) := by decide +kernel
theorem dX11_hasBar_14 : decode mX11_hasBar.2.1 14 = .ok (.iload_n 3, 1) := by decide +kernel
theorem dX11_hasBar_15 : decode mX11_hasBar.2.1 15 = .ok (.iaload, 1) := by decide +kernel
theorem dX11_hasBar_16 : decode mX11_hasBar.2.1 16 = .ok (.iload_n 1, 1) := by decide +kernel
theorem dX11_hasBar_17 : decode mX11_hasBar.2.1 17 = .ok (.if_icmp .ne 13, 3) := by decide +kernel
theorem dX11_hasBar_20 : decode mX11_hasBar.2.1 20 = .ok (.aload_n 0, 1) := by decide +kernel
theorem dX11_hasBar_21 : decode mX11_hasBar.2.1 21 = .ok (.getfield 85, 3) := by decide +kernel
theorem dX11_hasBar_24 : decode mX11_hasBar.2.1 24 = .ok (.iload_n 3, 1) := by decide +kernel
theorem dX11_hasBar_25 : decode mX11_hasBar.2.1 25 = .ok (.iaload, 1) := by decide +kernel
theorem dX11_hasBar_26 : decode mX11_hasBar.2.1 26 = .ok (.iload_n 2, 1) := by decide +kernel
theorem dX11_hasBar_27 : decode mX11_hasBar.2.1 27 = .ok (.if_icmp .eq 23, 3) := by decide +kernel
theorem dX11_hasBar_30 : decode mX11_hasBar.2.1 30 = .ok (.aload_n 0, 1) := by decide +kernel
theorem dX11_hasBar_31 : decode mX11_hasBar.2.1 31 = .ok (.getfield 82, 3) := by decide +kernel
theorem dX11_hasBar_34 : decode mX11_hasBar.2.1 34 = .ok (.iload_n 3, 1) := by decide +kernel
theorem dX11_hasBar_35 : decode mX11_hasBar.2.1 35 = .ok (.iaload, 1) := by decide +kernel
theorem dX11_hasBar_36 : decode mX11_hasBar.2.1 36 = .ok (.iload_n 2, 1) := by decide +kernel
theorem dX11_hasBar_37 : decode mX11_hasBar.2.1 37 = .ok (.if_icmp .ne 15, 3) := by decide +kernel
theorem dX11_hasBar_40 : decode mX11_hasBar.2.1 40 = .ok (.aload_n 0, 1) := by decide +kernel
theorem dX11_hasBar_41 : decode mX11_hasBar.2.1 41 = .ok (.getfield 85, 3) := by decide +kernel
theorem dX11_hasBar_44 : decode mX11_hasBar.2.1 44 = .ok (.iload_n 3, 1) := by decide +kernel
theorem dX11_hasBar_45 : decode mX11_hasBar.2.1 45 = .ok (.iaload, 1) := by decide +kernel
theorem dX11_hasBar_46 : decode mX11_hasBar.2.1 46 = .ok (.iload_n 1, 1) := by decide +kernel
theorem dX11_hasBar_47 : decode mX11_hasBar.2.1 47 = .ok (.if_icmp .ne 5, 3) := by decide +kernel
theorem dX11_hasBar_50 : decode mX11_hasBar.2.1 50 = .ok (.iconst 1, 1) := by decide +kernel
theorem dX11_hasBar_51 : decode mX11_hasBar.2.1 51 = .ok (.ireturn, 1) := by decide +kernel
theorem dX11_hasBar_52 : decode mX11_hasBar.2.1 52 = .ok (.iinc 3 1, 3) := by decide +kernel
theorem dX11_hasBar_55 : decode mX11_hasBar.2.1 55 = .ok (.goto (-53), 3) := by decide +kernel
theorem dX11_hasBar_58 : decode mX11_hasBar.2.1 58 = .ok (.iconst 0, 1) := by decide +kernel
theorem dX11_hasBar_59 : decode mX11_hasBar.2.1 59 = .ok (.ireturn, 1) := by decide +kernel
def fX11_hasBar_50 (p1 : Int32) (p2 : Int32) (σ : gS) : Option (Int32 × gS) :=
  some (1, σ)
set_option maxHeartbeats 4000000 in
set_option maxRecDepth 100000 in
theorem pX11_hasBar_50 {E : gE} {p1 : Int32} {p2 : Int32} {r : Int32} {σ' : gS} {σ : gS} (h : fX11_hasBar_50 p1 p2 σ = some (r, σ')) : gG E mX11_hasBar 50 [] [] σ (some (.int r)) σ' := by
  unfold fX11_hasBar_50 at h
  refine g_iconst (v := 1) dX11_hasBar_50 (by decide) ?_
  obtain ⟨rfl, rfl⟩ := so_inj h
  exact g_zret dX11_hasBar_51 rfl (Or.inr rfl)
def fX11_hasBar_52 (p1 : Int32) (p2 : Int32) (k2 : Int32 → gS → Option (Int32 × gS)) (v3 : Int32) (σ : gS) : Option (Int32 × gS) :=
  bnd (v3 + 1) fun x1 =>
  k2 x1 σ
set_option maxHeartbeats 4000000 in
set_option maxRecDepth 100000 in
theorem pX11_hasBar_52 {E : gE} {p1 : Int32} {p2 : Int32} {k2 : Int32 → gS → Option (Int32 × gS)} {r : Int32} {σ' : gS} {v3 : Int32} {σ : gS} (hk2 : ∀ (v3 : Int32) (σ : gS), k2 v3 σ = some (r, σ') → gG E mX11_hasBar 2 [(0, .ref 168), (1, .int p1), (2, .int p2), (3, .int v3)] [] σ (some (.int r)) σ') (h : fX11_hasBar_52 p1 p2 k2 v3 σ = some (r, σ')) : gG E mX11_hasBar 52 [(0, .ref 168), (1, .int p1), (2, .int p2), (3, .int v3)] [] σ (some (.int r)) σ' := by
  unfold fX11_hasBar_52 at h
  obtain ⟨x1, ex1, h⟩ := bnd_nm h
  refine g_iinc (j := 3) (v := x1) (lv' := [(3, .int x1), (0, .ref 168), (1, .int p1), (2, .int p2)]) dX11_hasBar_52 rfl (by rw [ex1]; rfl) (Nat.le_of_ble_eq_true rfl) rfl ?_
  refine g_goto (t := 2) dX11_hasBar_55 (by decide) ?_
  refine g_sub [1, 2, 3, 0] rfl ?_
  exact hk2 x1 σ h
def fX11_hasBar_30 (p1 : Int32) (p2 : Int32) (k2 : Int32 → gS → Option (Int32 × gS)) (v3 : Int32) (σ : gS) : Option (Int32 × gS) :=
  gg (¬ (v3 < 0 ∨ 60 ≤ v3.toNatClampNeg)) (
  if (σ.1 190 v3.toNatClampNeg) = p2 then
    gg (¬ (v3 < 0 ∨ 60 ≤ v3.toNatClampNeg)) (
    if (σ.1 191 v3.toNatClampNeg) = p1 then
      fX11_hasBar_50 p1 p2 σ
    else
      fX11_hasBar_52 p1 p2 k2 v3 σ)
  else
    fX11_hasBar_52 p1 p2 k2 v3 σ)
set_option maxHeartbeats 4000000 in
set_option maxRecDepth 100000 in
theorem pX11_hasBar_30 {E : gE} {p1 : Int32} {p2 : Int32} {k2 : Int32 → gS → Option (Int32 × gS)} {r : Int32} {σ' : gS} {v3 : Int32} {σ : gS} (hk2 : ∀ (v3 : Int32) (σ : gS), k2 v3 σ = some (r, σ') → gG E mX11_hasBar 2 [(0, .ref 168), (1, .int p1), (2, .int p2), (3, .int v3)] [] σ (some (.int r)) σ') (h : fX11_hasBar_30 p1 p2 k2 v3 σ = some (r, σ')) : gG E mX11_hasBar 30 [(0, .ref 168), (1, .int p1), (2, .int p2), (3, .int v3)] [] σ (some (.int r)) σ' := by
  unfold fX11_hasBar_30 at h
  refine g_aload_n dX11_hasBar_30 rfl 0 rfl ?_
  refine g_getC (n := 190) dX11_hasBar_31 gi_168 rfl fl_RX11_82 ?_
  refine g_iload_n dX11_hasBar_34 rfl 3 rfl ?_
  obtain ⟨g1, h⟩ := gg_some h
  refine g_iald dX11_hasBar_35 gi_190 g1 ?_
  refine g_iload_n dX11_hasBar_36 rfl 2 rfl ?_
  refine g_icmp_ne (t := 52) dX11_hasBar_37 (by decide) (fun c2 => ?_) (fun c2 => ?_)
  · replace h := if_f h c2
    exact pX11_hasBar_52 hk2 h
  · replace h := if_t h c2
    refine g_aload_n dX11_hasBar_40 rfl 0 rfl ?_
    refine g_getC (n := 191) dX11_hasBar_41 gi_168 rfl fl_RX11_85 ?_
    refine g_iload_n dX11_hasBar_44 rfl 3 rfl ?_
    obtain ⟨g3, h⟩ := gg_some h
    refine g_iald dX11_hasBar_45 gi_191 g3 ?_
    refine g_iload_n dX11_hasBar_46 rfl 1 rfl ?_
    refine g_icmp_ne (t := 52) dX11_hasBar_47 (by decide) (fun c4 => ?_) (fun c4 => ?_)
    · replace h := if_f h c4
      exact pX11_hasBar_52 hk2 h
    · replace h := if_t h c4
      refine g_sub [] rfl ?_
      exact pX11_hasBar_50 h
def fX11_hasBar_2 (p1 : Int32) (p2 : Int32) : Nat → Int32 → gS → Option (Int32 × gS)
  | 0, _, _ => none
  | n + 1, v3, σ => if (σ.1 168 30) ≤ v3 then
    some (0, σ)
  else
    gg (¬ (v3 < 0 ∨ 60 ≤ v3.toNatClampNeg)) (
    if (σ.1 190 v3.toNatClampNeg) = p1 then
      gg (¬ (v3 < 0 ∨ 60 ≤ v3.toNatClampNeg)) (
      if (σ.1 191 v3.toNatClampNeg) = p2 then
        fX11_hasBar_50 p1 p2 σ
      else
        fX11_hasBar_30 p1 p2 (fun v3 σ => fX11_hasBar_2 p1 p2 n v3 σ) v3 σ)
    else
      fX11_hasBar_30 p1 p2 (fun v3 σ => fX11_hasBar_2 p1 p2 n v3 σ) v3 σ)
set_option maxHeartbeats 4000000 in
set_option maxRecDepth 100000 in
theorem pX11_hasBar_2 {E : gE} {p1 : Int32} {p2 : Int32} {r : Int32} {σ' : gS} : ∀ (n : Nat) (v3 : Int32) (σ : gS), fX11_hasBar_2 p1 p2 n v3 σ = some (r, σ') → gG E mX11_hasBar 2 [(0, .ref 168), (1, .int p1), (2, .int p2), (3, .int v3)] [] σ (some (.int r)) σ' := by
  intro n
  induction n with
  | zero => intro v3 σ h; exact absurd (show none = some (r, σ') from h) (by intro q; cases q)
  | succ n ih =>
  intro v3 σ h
  unfold fX11_hasBar_2 at h
  refine g_iload_n dX11_hasBar_2 rfl 3 rfl ?_
  refine g_aload_n dX11_hasBar_3 rfl 0 rfl ?_
  refine g_getI dX11_hasBar_4 gi_168 rfl fl_RX11_325 ?_
  refine g_icmp_ge (t := 58) dX11_hasBar_7 (by decide) (fun c1 => ?_) (fun c1 => ?_)
  · replace h := if_t h c1
    refine g_iconst (v := 0) dX11_hasBar_58 (by decide) ?_
    obtain ⟨rfl, rfl⟩ := so_inj h
    exact g_zret dX11_hasBar_59 rfl (Or.inl rfl)
  · replace h := if_f h c1
    refine g_aload_n dX11_hasBar_10 rfl 0 rfl ?_
    refine g_getC (n := 190) dX11_hasBar_11 gi_168 rfl fl_RX11_82 ?_
    refine g_iload_n dX11_hasBar_14 rfl 3 rfl ?_
    obtain ⟨g2, h⟩ := gg_some h
    refine g_iald dX11_hasBar_15 gi_190 g2 ?_
    refine g_iload_n dX11_hasBar_16 rfl 1 rfl ?_
    refine g_icmp_ne (t := 30) dX11_hasBar_17 (by decide) (fun c3 => ?_) (fun c3 => ?_)
    · replace h := if_f h c3
      exact pX11_hasBar_30 (fun v3 σ h => ih v3 σ h) h
    · replace h := if_t h c3
      refine g_aload_n dX11_hasBar_20 rfl 0 rfl ?_
      refine g_getC (n := 191) dX11_hasBar_21 gi_168 rfl fl_RX11_85 ?_
      refine g_iload_n dX11_hasBar_24 rfl 3 rfl ?_
      obtain ⟨g4, h⟩ := gg_some h
      refine g_iald dX11_hasBar_25 gi_191 g4 ?_
      refine g_iload_n dX11_hasBar_26 rfl 2 rfl ?_
      refine g_icmp_eq (t := 50) dX11_hasBar_27 (by decide) (fun c5 => ?_) (fun c5 => ?_)
      · replace h := if_t h c5
        refine g_sub [] rfl ?_
        exact pX11_hasBar_50 h
      · replace h := if_f h c5
        exact pX11_hasBar_30 (fun v3 σ h => ih v3 σ h) h
def fX11_hasBar (p1 : Int32) (p2 : Int32) (σ : gS) : Option (Int32 × gS) :=
  fX11_hasBar_2 p1 p2 2000 0 σ
set_option maxHeartbeats 4000000 in
set_option maxRecDepth 100000 in
theorem pX11_hasBar {E : gE} {p1 : Int32} {p2 : Int32} {r : Int32} {σ' : gS} {σ : gS} (h : fX11_hasBar p1 p2 σ = some (r, σ')) : gG E mX11_hasBar 0 [(0, .ref 168), (1, .int p1), (2, .int p2)] [] σ (some (.int r)) σ' := by
  unfold fX11_hasBar at h
  refine g_iconst (v := 0) dX11_hasBar_0 (by decide) ?_
  refine g_istore_n (lv' := [(3, .int 0), (0, .ref 168), (1, .int p1), (2, .int p2)]) dX11_hasBar_1 rfl (Nat.le_of_ble_eq_true rfl) rfl ?_
  refine g_sub [1, 2, 3, 0] rfl ?_
  exact pX11_hasBar_2 2000 0 σ h
theorem zX11_hasBar {E : gE} {p1 : Int32} {p2 : Int32} {r : Int32} {σ σ' : gS} (h : fX11_hasBar p1 p2 σ = some (r, σ')) : gC E mX11_hasBar [.ref 168, .int p1, .int p2] σ (some (.int r)) σ' :=
  gC_of (by decide +kernel) rfl (Nat.le_of_ble_eq_true rfl) (pX11_hasBar h)
theorem fp_RX11_325 : gFp RX11 325 11 30 .int := ⟨RX11, TX11, 101, rfl, by decide, ux_11, Or.inl (gm 1258 (by decide +kernel) rfl), rfl, by decide +kernel, ⟨tyX11, tyX11_ok⟩, nmX11⟩
def mX11_addBar : gM := (yX11_addBar, cX11_addBar, RX11, 3, none, 1, 23)
theorem dX11_addBar_0 : decode mX11_addBar.2.1 0 = .ok (.aload_n 0, 1) := by decide +kernel
theorem dX11_addBar_1 : decode mX11_addBar.2.1 1 = .ok (.invokevirtual 282, 3) := by decide +kernel
theorem dX11_addBar_4 : decode mX11_addBar.2.1 4 = .ok (.ifCond .eq 18, 3) := by decide +kernel
theorem dX11_addBar_7 : decode mX11_addBar.2.1 7 = .ok (.aload_n 0, 1) := by decide +kernel
theorem dX11_addBar_8 : decode mX11_addBar.2.1 8 = .ok (.getfield 325, 3) := by decide +kernel
theorem dX11_addBar_11 : decode mX11_addBar.2.1 11 = .ok (.bipush 60, 2) := by decide +kernel
theorem dX11_addBar_13 : decode mX11_addBar.2.1 13 = .ok (.if_icmp .ne 9, 3) := by decide +kernel
theorem dX11_addBar_16 : decode mX11_addBar.2.1 16 = .ok (.aload_n 0, 1) := by decide +kernel
theorem dX11_addBar_17 : decode mX11_addBar.2.1 17 = .ok (.bipush 6, 2) := by decide +kernel
theorem dX11_addBar_19 : decode mX11_addBar.2.1 19 = .ok (.invokevirtual 285, 3) := by decide +kernel
theorem dX11_addBar_22 : decode mX11_addBar.2.1 22 = .ok (.aload_n 0, 1) := by decide +kernel
theorem dX11_addBar_23 : decode mX11_addBar.2.1 23 = .ok (.invokevirtual 282, 3) := by decide +kernel
theorem dX11_addBar_26 : decode mX11_addBar.2.1 26 = .ok (.ifCond .eq 53, 3) := by decide +kernel
theorem dX11_addBar_29 : decode mX11_addBar.2.1 29 = .ok (.iload_n 1, 1) := by decide +kernel
theorem dX11_addBar_30 : decode mX11_addBar.2.1 30 = .ok (.iload_n 2, 1) := by decide +kernel
theorem dX11_addBar_31 : decode mX11_addBar.2.1 31 = .ok (.if_icmp .eq 42, 3) := by decide +kernel
theorem dX11_addBar_34 : decode mX11_addBar.2.1 34 = .ok (.aload_n 0, 1) := by decide +kernel
theorem dX11_addBar_35 : decode mX11_addBar.2.1 35 = .ok (.getfield 64, 3) := by decide +kernel
theorem dX11_addBar_38 : decode mX11_addBar.2.1 38 = .ok (.iload_n 1, 1) := by decide +kernel
theorem dX11_addBar_39 : decode mX11_addBar.2.1 39 = .ok (.iaload, 1) := by decide +kernel
theorem dX11_addBar_40 : decode mX11_addBar.2.1 40 = .ok (.aload_n 0, 1) := by decide +kernel
theorem dX11_addBar_41 : decode mX11_addBar.2.1 41 = .ok (.getfield 64, 3) := by decide +kernel
theorem dX11_addBar_44 : decode mX11_addBar.2.1 44 = .ok (.iload_n 2, 1) := by decide +kernel
theorem dX11_addBar_45 : decode mX11_addBar.2.1 45 = .ok (.iaload, 1) := by decide +kernel
theorem dX11_addBar_46 : decode mX11_addBar.2.1 46 = .ok (.if_icmp .ne 18, 3) := by decide +kernel
theorem dX11_addBar_49 : decode mX11_addBar.2.1 49 = .ok (.aload_n 0, 1) := by decide +kernel
theorem dX11_addBar_50 : decode mX11_addBar.2.1 50 = .ok (.getfield 67, 3) := by decide +kernel
theorem dX11_addBar_53 : decode mX11_addBar.2.1 53 = .ok (.iload_n 1, 1) := by decide +kernel
theorem dX11_addBar_54 : decode mX11_addBar.2.1 54 = .ok (.iaload, 1) := by decide +kernel
theorem dX11_addBar_55 : decode mX11_addBar.2.1 55 = .ok (.aload_n 0, 1) := by decide +kernel
theorem dX11_addBar_56 : decode mX11_addBar.2.1 56 = .ok (.getfield 67, 3) := by decide +kernel
theorem dX11_addBar_59 : decode mX11_addBar.2.1 59 = .ok (.iload_n 2, 1) := by decide +kernel
theorem dX11_addBar_60 : decode mX11_addBar.2.1 60 = .ok (.iaload, 1) := by decide +kernel
theorem dX11_addBar_61 : decode mX11_addBar.2.1 61 = .ok (.if_icmp .eq 12, 3) := by decide +kernel
theorem dX11_addBar_64 : decode mX11_addBar.2.1 64 = .ok (.aload_n 0, 1) := by decide +kernel
theorem dX11_addBar_65 : decode mX11_addBar.2.1 65 = .ok (.iload_n 1, 1) := by decide +kernel
theorem dX11_addBar_66 : decode mX11_addBar.2.1 66 = .ok (.iload_n 2, 1) := by decide +kernel
theorem dX11_addBar_67 : decode mX11_addBar.2.1 67 = .ok (.invokevirtual 328, 3) := by decide +kernel
theorem dX11_addBar_70 : decode mX11_addBar.2.1 70 = .ok (.ifCond .eq 9, 3) := by decide +kernel
theorem dX11_addBar_73 : decode mX11_addBar.2.1 73 = .ok (.aload_n 0, 1) := by decide +kernel
theorem dX11_addBar_74 : decode mX11_addBar.2.1 74 = .ok (.bipush 7, 2) := by decide +kernel
theorem dX11_addBar_76 : decode mX11_addBar.2.1 76 = .ok (.invokevirtual 285, 3) := by decide +kernel
theorem dX11_addBar_79 : decode mX11_addBar.2.1 79 = .ok (.aload_n 0, 1) := by decide +kernel
theorem dX11_addBar_80 : decode mX11_addBar.2.1 80 = .ok (.invokevirtual 282, 3) := by decide +kernel
theorem dX11_addBar_83 : decode mX11_addBar.2.1 83 = .ok (.ifCond .eq 44, 3) := by decide +kernel
theorem dX11_addBar_86 : decode mX11_addBar.2.1 86 = .ok (.aload_n 0, 1) := by decide +kernel
theorem dX11_addBar_87 : decode mX11_addBar.2.1 87 = .ok (.getfield 82, 3) := by decide +kernel
theorem dX11_addBar_90 : decode mX11_addBar.2.1 90 = .ok (.aload_n 0, 1) := by decide +kernel
theorem dX11_addBar_91 : decode mX11_addBar.2.1 91 = .ok (.getfield 325, 3) := by decide +kernel
theorem dX11_addBar_94 : decode mX11_addBar.2.1 94 = .ok (.iload_n 1, 1) := by decide +kernel
theorem dX11_addBar_95 : decode mX11_addBar.2.1 95 = .ok (.iastore, 1) := by decide +kernel
theorem dX11_addBar_96 : decode mX11_addBar.2.1 96 = .ok (.aload_n 0, 1) := by decide +kernel
theorem dX11_addBar_97 : decode mX11_addBar.2.1 97 = .ok (.getfield 85, 3) := by decide +kernel
theorem dX11_addBar_100 : decode mX11_addBar.2.1 100 = .ok (.aload_n 0, 1) := by decide +kernel
theorem dX11_addBar_101 : decode mX11_addBar.2.1 101 = .ok (.getfield 325, 3) := by decide +kernel
theorem dX11_addBar_104 : decode mX11_addBar.2.1 104 = .ok (.iload_n 2, 1) := by decide +kernel
theorem dX11_addBar_105 : decode mX11_addBar.2.1 105 = .ok (.iastore, 1) := by decide +kernel
theorem dX11_addBar_106 : decode mX11_addBar.2.1 106 = .ok (.aload_n 0, 1) := by decide +kernel
theorem dX11_addBar_107 : decode mX11_addBar.2.1 107 = .ok (.dup, 1) := by decide +kernel
theorem dX11_addBar_108 : decode mX11_addBar.2.1 108 = .ok (.getfield 325, 3) := by decide +kernel
theorem dX11_addBar_111 : decode mX11_addBar.2.1 111 = .ok (.iconst 1, 1) := by decide +kernel
theorem dX11_addBar_112 : decode mX11_addBar.2.1 112 = .ok (.iadd, 1) := by decide +kernel
theorem dX11_addBar_113 : decode mX11_addBar.2.1 113 = .ok (.putfield 325, 3) := by decide +kernel
theorem dX11_addBar_116 : decode mX11_addBar.2.1 116 = .ok (.aload_n 0, 1) := by decide +kernel
theorem dX11_addBar_117 : decode mX11_addBar.2.1 117 = .ok (.iconst 2, 1) := by decide +kernel
theorem dX11_addBar_118 : decode mX11_addBar.2.1 118 = .ok (.aload_n 0, 1) := by decide +kernel
theorem dX11_addBar_119 : decode mX11_addBar.2.1 119 = .ok (.getfield 325, 3) := by decide +kernel
theorem dX11_addBar_122 : decode mX11_addBar.2.1 122 = .ok (.iconst 1, 1) := by decide +kernel
theorem dX11_addBar_123 : decode mX11_addBar.2.1 123 = .ok (.isub, 1) := by decide +kernel
theorem dX11_addBar_124 : decode mX11_addBar.2.1 124 = .ok (.invokevirtual 314, 3) := by decide +kernel
theorem dX11_addBar_127 : decode mX11_addBar.2.1 127 = .ok (.return_, 1) := by decide +kernel
theorem okX11_addBar_282 : gOkV mX11_addBar mX11_good 282 0 := ⟨List.forall_mem_cons.mpr ⟨(gm 1577 (by decide +kernel) rfl), List.forall_mem_cons.mpr ⟨(gm 1574 (by decide +kernel) rfl), List.forall_mem_cons.mpr ⟨(gm 1576 (by decide +kernel) rfl), List.forall_mem_cons.mpr ⟨(gm 61 (by decide +kernel) rfl), List.forall_mem_cons.mpr ⟨(gm 122 (by decide +kernel) rfl), fun _ h => absurd h List.not_mem_nil⟩⟩⟩⟩⟩, by decide +kernel, by decide +kernel, by decide +kernel⟩
theorem okX11_addBar_314 : gOkV mX11_addBar mX11_addPart 314 2 := ⟨List.forall_mem_cons.mpr ⟨(gm 1605 (by decide +kernel) rfl), List.forall_mem_cons.mpr ⟨(gm 1602 (by decide +kernel) rfl), List.forall_mem_cons.mpr ⟨(gm 1604 (by decide +kernel) rfl), List.forall_mem_cons.mpr ⟨(gm 68 (by decide +kernel) rfl), List.forall_mem_cons.mpr ⟨(gm 122 (by decide +kernel) rfl), fun _ h => absurd h List.not_mem_nil⟩⟩⟩⟩⟩, by decide +kernel, by decide +kernel, by decide +kernel⟩
theorem okX11_addBar_285 : gOkV mX11_addBar mX11_bad 285 1 := ⟨List.forall_mem_cons.mpr ⟨(gm 1585 (by decide +kernel) rfl), List.forall_mem_cons.mpr ⟨(gm 1582 (by decide +kernel) rfl), List.forall_mem_cons.mpr ⟨(gm 1584 (by decide +kernel) rfl), List.forall_mem_cons.mpr ⟨(gm 63 (by decide +kernel) rfl), List.forall_mem_cons.mpr ⟨(gm 122 (by decide +kernel) rfl), fun _ h => absurd h List.not_mem_nil⟩⟩⟩⟩⟩, by decide +kernel, by decide +kernel, by decide +kernel⟩
theorem okX11_addBar_328 : gOkV mX11_addBar mX11_hasBar 328 2 := ⟨List.forall_mem_cons.mpr ⟨(gm 1629 (by decide +kernel) rfl), List.forall_mem_cons.mpr ⟨(gm 1626 (by decide +kernel) rfl), List.forall_mem_cons.mpr ⟨(gm 1628 (by decide +kernel) rfl), List.forall_mem_cons.mpr ⟨(gm 74 (by decide +kernel) rfl), List.forall_mem_cons.mpr ⟨(gm 122 (by decide +kernel) rfl), fun _ h => absurd h List.not_mem_nil⟩⟩⟩⟩⟩, by decide +kernel, by decide +kernel, by decide +kernel⟩
def fX11_addBar_127 (p1 : Int32) (p2 : Int32) (σ : gS) : Option (Unit × gS) :=
  some ((), σ)
set_option maxHeartbeats 4000000 in
set_option maxRecDepth 100000 in
theorem pX11_addBar_127 {E : gE} {p1 : Int32} {p2 : Int32} {r : Unit} {σ' : gS} {σ : gS} (h : fX11_addBar_127 p1 p2 σ = some (r, σ')) : gG E mX11_addBar 127 [] [] σ (none) σ' := by
  unfold fX11_addBar_127 at h
  obtain ⟨rfl, rfl⟩ := so_inj h
  exact g_vret dX11_addBar_127 rfl
def fX11_addBar_79 (p1 : Int32) (p2 : Int32) (σ : gS) : Option (Unit × gS) :=
  bd (fX11_good σ) fun x1 σ2 =>
  if x1 = 0 then
    fX11_addBar_127 p1 p2 σ2
  else
    gg (¬ (σ2.1 168 30 < 0 ∨ 60 ≤ (σ2.1 168 30).toNatClampNeg)) (
    bnd (gsI σ2 190 ((σ2.1 168 30).toNatClampNeg) p1) fun σ6 =>
    gg (¬ (σ6.1 168 30 < 0 ∨ 60 ≤ (σ6.1 168 30).toNatClampNeg)) (
    bnd (gsI σ6 191 ((σ6.1 168 30).toNatClampNeg) p2) fun σ8 =>
    bnd (gsI σ8 168 30 ((σ8.1 168 30) + 1)) fun σ9 =>
    bd (fX11_addPart 2 ((σ9.1 168 30) - 1) σ9) fun _ σ10 =>
    fX11_addBar_127 p1 p2 σ10))
set_option maxHeartbeats 4000000 in
set_option maxRecDepth 100000 in
theorem pX11_addBar_79 {E : gE} {p1 : Int32} {p2 : Int32} {r : Unit} {σ' : gS} {σ : gS} (h : fX11_addBar_79 p1 p2 σ = some (r, σ')) : gG E mX11_addBar 79 [(0, .ref 168), (1, .int p1), (2, .int p2)] [] σ (none) σ' := by
  unfold fX11_addBar_79 at h
  refine g_aload_n dX11_addBar_79 rfl 0 rfl ?_
  obtain ⟨x1, σ2, y3, h⟩ := bd_some h
  refine g_callVr (as := []) (st := []) (zX11_good y3) dX11_addBar_80 gi_168 rfl okX11_addBar_282 (Nat.le_of_ble_eq_true rfl) ?_
  refine g_if_eq (t := 127) dX11_addBar_83 (by decide) (fun c4 => ?_) (fun c4 => ?_)
  · replace h := if_t h c4
    refine g_sub [] rfl ?_
    exact pX11_addBar_127 h
  · replace h := if_f h c4
    refine g_aload_n dX11_addBar_86 rfl 0 rfl ?_
    refine g_getC (n := 190) dX11_addBar_87 gi_168 rfl fl_RX11_82 ?_
    refine g_aload_n dX11_addBar_90 rfl 0 rfl ?_
    refine g_getI dX11_addBar_91 gi_168 rfl fl_RX11_325 ?_
    refine g_iload_n dX11_addBar_94 rfl 1 rfl ?_
    obtain ⟨g5, h⟩ := gg_some h
    obtain ⟨σ6, eσ6, h⟩ := bnd_nm h
    refine g_iast dX11_addBar_95 gi_190 g5 (g_st eσ6 ?_)
    refine g_aload_n dX11_addBar_96 rfl 0 rfl ?_
    refine g_getC (n := 191) dX11_addBar_97 gi_168 rfl fl_RX11_85 ?_
    refine g_aload_n dX11_addBar_100 rfl 0 rfl ?_
    refine g_getI dX11_addBar_101 gi_168 rfl fl_RX11_325 ?_
    refine g_iload_n dX11_addBar_104 rfl 2 rfl ?_
    obtain ⟨g7, h⟩ := gg_some h
    obtain ⟨σ8, eσ8, h⟩ := bnd_nm h
    refine g_iast dX11_addBar_105 gi_191 g7 (g_st eσ8 ?_)
    refine g_aload_n dX11_addBar_106 rfl 0 rfl ?_
    refine g_dup dX11_addBar_107 rfl ?_
    refine g_getI dX11_addBar_108 gi_168 rfl fl_RX11_325 ?_
    refine g_iconst (v := 1) dX11_addBar_111 (by decide) ?_
    refine g_iadd dX11_addBar_112 ?_
    obtain ⟨σ9, eσ9, h⟩ := bnd_nm h
    refine g_putI dX11_addBar_113 gi_168 rfl fp_RX11_325 (g_st eσ9 ?_)
    refine g_aload_n dX11_addBar_116 rfl 0 rfl ?_
    refine g_iconst (v := 2) dX11_addBar_117 (by decide) ?_
    refine g_aload_n dX11_addBar_118 rfl 0 rfl ?_
    refine g_getI dX11_addBar_119 gi_168 rfl fl_RX11_325 ?_
    refine g_iconst (v := 1) dX11_addBar_122 (by decide) ?_
    refine g_isub dX11_addBar_123 ?_
    obtain ⟨_, σ10, y11, h⟩ := bd_some h
    refine g_callVv (as := [.int 2, .int ((σ9.1 168 30) - 1)]) (st := []) (zX11_addPart y11) dX11_addBar_124 gi_168 rfl okX11_addBar_314 (Nat.le_of_ble_eq_true rfl) ?_
    refine g_sub [] rfl ?_
    exact pX11_addBar_127 h
def fX11_addBar_73 (p1 : Int32) (p2 : Int32) (σ : gS) : Option (Unit × gS) :=
  bd (fX11_bad 7 σ) fun _ σ1 =>
  fX11_addBar_79 p1 p2 σ1
set_option maxHeartbeats 4000000 in
set_option maxRecDepth 100000 in
theorem pX11_addBar_73 {E : gE} {p1 : Int32} {p2 : Int32} {r : Unit} {σ' : gS} {σ : gS} (h : fX11_addBar_73 p1 p2 σ = some (r, σ')) : gG E mX11_addBar 73 [(0, .ref 168), (1, .int p1), (2, .int p2)] [] σ (none) σ' := by
  unfold fX11_addBar_73 at h
  refine g_aload_n dX11_addBar_73 rfl 0 rfl ?_
  refine g_bipush (v := 7) dX11_addBar_74 (by decide) ?_
  obtain ⟨_, σ1, y2, h⟩ := bd_some h
  refine g_callVv (as := [.int 7]) (st := []) (zX11_bad y2) dX11_addBar_76 gi_168 rfl okX11_addBar_285 (Nat.le_of_ble_eq_true rfl) ?_
  exact pX11_addBar_79 h
def fX11_addBar_64 (p1 : Int32) (p2 : Int32) (σ : gS) : Option (Unit × gS) :=
  bd (fX11_hasBar p1 p2 σ) fun x1 σ2 =>
  if x1 = 0 then
    fX11_addBar_79 p1 p2 σ2
  else
    fX11_addBar_73 p1 p2 σ2
set_option maxHeartbeats 4000000 in
set_option maxRecDepth 100000 in
theorem pX11_addBar_64 {E : gE} {p1 : Int32} {p2 : Int32} {r : Unit} {σ' : gS} {σ : gS} (h : fX11_addBar_64 p1 p2 σ = some (r, σ')) : gG E mX11_addBar 64 [(0, .ref 168), (1, .int p1), (2, .int p2)] [] σ (none) σ' := by
  unfold fX11_addBar_64 at h
  refine g_aload_n dX11_addBar_64 rfl 0 rfl ?_
  refine g_iload_n dX11_addBar_65 rfl 1 rfl ?_
  refine g_iload_n dX11_addBar_66 rfl 2 rfl ?_
  obtain ⟨x1, σ2, y3, h⟩ := bd_some h
  refine g_callVr (as := [.int p1, .int p2]) (st := []) (zX11_hasBar y3) dX11_addBar_67 gi_168 rfl okX11_addBar_328 (Nat.le_of_ble_eq_true rfl) ?_
  refine g_if_eq (t := 79) dX11_addBar_70 (by decide) (fun c4 => ?_) (fun c4 => ?_)
  · replace h := if_t h c4
    exact pX11_addBar_79 h
  · replace h := if_f h c4
    exact pX11_addBar_73 h
def fX11_addBar_22 (p1 : Int32) (p2 : Int32) (σ : gS) : Option (Unit × gS) :=
  bd (fX11_good σ) fun x1 σ2 =>
  if x1 = 0 then
    fX11_addBar_79 p1 p2 σ2
  else
    if p1 = p2 then
      fX11_addBar_73 p1 p2 σ2
    else
      gg (¬ (p1 < 0 ∨ 24 ≤ p1.toNatClampNeg)) (
      gg (¬ (p2 < 0 ∨ 24 ≤ p2.toNatClampNeg)) (
      if (σ2.1 184 p1.toNatClampNeg) = (σ2.1 184 p2.toNatClampNeg) then
        gg (¬ (p1 < 0 ∨ 24 ≤ p1.toNatClampNeg)) (
        gg (¬ (p2 < 0 ∨ 24 ≤ p2.toNatClampNeg)) (
        if (σ2.1 185 p1.toNatClampNeg) = (σ2.1 185 p2.toNatClampNeg) then
          fX11_addBar_73 p1 p2 σ2
        else
          fX11_addBar_64 p1 p2 σ2))
      else
        fX11_addBar_64 p1 p2 σ2))
set_option maxHeartbeats 4000000 in
set_option maxRecDepth 100000 in
theorem pX11_addBar_22 {E : gE} {p1 : Int32} {p2 : Int32} {r : Unit} {σ' : gS} {σ : gS} (h : fX11_addBar_22 p1 p2 σ = some (r, σ')) : gG E mX11_addBar 22 [(0, .ref 168), (1, .int p1), (2, .int p2)] [] σ (none) σ' := by
  unfold fX11_addBar_22 at h
  refine g_aload_n dX11_addBar_22 rfl 0 rfl ?_
  obtain ⟨x1, σ2, y3, h⟩ := bd_some h
  refine g_callVr (as := []) (st := []) (zX11_good y3) dX11_addBar_23 gi_168 rfl okX11_addBar_282 (Nat.le_of_ble_eq_true rfl) ?_
  refine g_if_eq (t := 79) dX11_addBar_26 (by decide) (fun c4 => ?_) (fun c4 => ?_)
  · replace h := if_t h c4
    exact pX11_addBar_79 h
  · replace h := if_f h c4
    refine g_iload_n dX11_addBar_29 rfl 1 rfl ?_
    refine g_iload_n dX11_addBar_30 rfl 2 rfl ?_
    refine g_icmp_eq (t := 73) dX11_addBar_31 (by decide) (fun c5 => ?_) (fun c5 => ?_)
    · replace h := if_t h c5
      exact pX11_addBar_73 h
    · replace h := if_f h c5
      refine g_aload_n dX11_addBar_34 rfl 0 rfl ?_
      refine g_getC (n := 184) dX11_addBar_35 gi_168 rfl fl_RX11_64 ?_
      refine g_iload_n dX11_addBar_38 rfl 1 rfl ?_
      obtain ⟨g6, h⟩ := gg_some h
      refine g_iald dX11_addBar_39 gi_184 g6 ?_
      refine g_aload_n dX11_addBar_40 rfl 0 rfl ?_
      refine g_getC (n := 184) dX11_addBar_41 gi_168 rfl fl_RX11_64 ?_
      refine g_iload_n dX11_addBar_44 rfl 2 rfl ?_
      obtain ⟨g7, h⟩ := gg_some h
      refine g_iald dX11_addBar_45 gi_184 g7 ?_
      refine g_icmp_ne (t := 64) dX11_addBar_46 (by decide) (fun c8 => ?_) (fun c8 => ?_)
      · replace h := if_f h c8
        exact pX11_addBar_64 h
      · replace h := if_t h c8
        refine g_aload_n dX11_addBar_49 rfl 0 rfl ?_
        refine g_getC (n := 185) dX11_addBar_50 gi_168 rfl fl_RX11_67 ?_
        refine g_iload_n dX11_addBar_53 rfl 1 rfl ?_
        obtain ⟨g9, h⟩ := gg_some h
        refine g_iald dX11_addBar_54 gi_185 g9 ?_
        refine g_aload_n dX11_addBar_55 rfl 0 rfl ?_
        refine g_getC (n := 185) dX11_addBar_56 gi_168 rfl fl_RX11_67 ?_
        refine g_iload_n dX11_addBar_59 rfl 2 rfl ?_
        obtain ⟨g10, h⟩ := gg_some h
        refine g_iald dX11_addBar_60 gi_185 g10 ?_
        refine g_icmp_eq (t := 73) dX11_addBar_61 (by decide) (fun c11 => ?_) (fun c11 => ?_)
        · replace h := if_t h c11
          exact pX11_addBar_73 h
        · replace h := if_f h c11
          exact pX11_addBar_64 h
def fX11_addBar (p1 : Int32) (p2 : Int32) (σ : gS) : Option (Unit × gS) :=
  bd (fX11_good σ) fun x1 σ2 =>
  if x1 = 0 then
    fX11_addBar_22 p1 p2 σ2
  else
    if (σ2.1 168 30) = 60 then
      bd (fX11_bad 6 σ2) fun _ σ6 =>
      fX11_addBar_22 p1 p2 σ6
    else
      fX11_addBar_22 p1 p2 σ2
set_option maxHeartbeats 4000000 in
set_option maxRecDepth 100000 in
theorem pX11_addBar {E : gE} {p1 : Int32} {p2 : Int32} {r : Unit} {σ' : gS} {σ : gS} (h : fX11_addBar p1 p2 σ = some (r, σ')) : gG E mX11_addBar 0 [(0, .ref 168), (1, .int p1), (2, .int p2)] [] σ (none) σ' := by
  unfold fX11_addBar at h
  refine g_aload_n dX11_addBar_0 rfl 0 rfl ?_
  obtain ⟨x1, σ2, y3, h⟩ := bd_some h
  refine g_callVr (as := []) (st := []) (zX11_good y3) dX11_addBar_1 gi_168 rfl okX11_addBar_282 (Nat.le_of_ble_eq_true rfl) ?_
  refine g_if_eq (t := 22) dX11_addBar_4 (by decide) (fun c4 => ?_) (fun c4 => ?_)
  · replace h := if_t h c4
    exact pX11_addBar_22 h
  · replace h := if_f h c4
    refine g_aload_n dX11_addBar_7 rfl 0 rfl ?_
    refine g_getI dX11_addBar_8 gi_168 rfl fl_RX11_325 ?_
    refine g_bipush (v := 60) dX11_addBar_11 (by decide) ?_
    refine g_icmp_ne (t := 22) dX11_addBar_13 (by decide) (fun c5 => ?_) (fun c5 => ?_)
    · replace h := if_f h c5
      exact pX11_addBar_22 h
    · replace h := if_t h c5
      refine g_aload_n dX11_addBar_16 rfl 0 rfl ?_
      refine g_bipush (v := 6) dX11_addBar_17 (by decide) ?_
      obtain ⟨_, σ6, y7, h⟩ := bd_some h
      refine g_callVv (as := [.int 6]) (st := []) (zX11_bad y7) dX11_addBar_19 gi_168 rfl okX11_addBar_285 (Nat.le_of_ble_eq_true rfl) ?_
      exact pX11_addBar_22 h
theorem zX11_addBar {E : gE} {p1 : Int32} {p2 : Int32} {r : Unit} {σ σ' : gS} (h : fX11_addBar p1 p2 σ = some (r, σ')) : gC E mX11_addBar [.ref 168, .int p1, .int p2] σ (none) σ' :=
  gC_of (by decide +kernel) rfl (Nat.le_of_ble_eq_true rfl) (pX11_addBar h)
def mX11_readBars : gM := (yX11_readBars, cX11_readBars, RX11, 7, none, 4, 92)
theorem dX11_readBars_0 : decode mX11_readBars.2.1 0 = .ok (.aload_n 0, 1) := by decide +kernel
theorem dX11_readBars_1 : decode mX11_readBars.2.1 1 = .ok (.invokevirtual 332, 3) := by decide +kernel
theorem dX11_readBars_4 : decode mX11_readBars.2.1 4 = .ok (.istore_n 2, 1) := by decide +kernel
theorem dX11_readBars_5 : decode mX11_readBars.2.1 5 = .ok (.iload_n 2, 1) := by decide +kernel
theorem dX11_readBars_6 : decode mX11_readBars.2.1 6 = .ok (.istore_n 3, 1) := by decide +kernel
theorem dX11_readBars_7 : decode mX11_readBars.2.1 7 = .ok (.iconst 1, 1) := by decide +kernel
theorem dX11_readBars_8 : decode mX11_readBars.2.1 8 = .ok (.istore 4, 2) := by decide +kernel
theorem dX11_readBars_10 : decode mX11_readBars.2.1 10 = .ok (.aload_n 0, 1) := by decide +kernel
theorem dX11_readBars_11 : decode mX11_readBars.2.1 11 = .ok (.invokevirtual 282, 3) := by decide +kernel
theorem dX11_readBars_14 : decode mX11_readBars.2.1 14 = .ok (.ifCond .eq 7, 3) := by decide +kernel
theorem dX11_readBars_17 : decode mX11_readBars.2.1 17 = .ok (.aload_n 0, 1) := by decide +kernel
theorem dX11_readBars_18 : decode mX11_readBars.2.1 18 = .ok (.invokevirtual 292, 3) := by decide +kernel
theorem dX11_readBars_21 : decode mX11_readBars.2.1 21 = .ok (.iload_n 1, 1) := by decide +kernel
theorem dX11_readBars_22 : decode mX11_readBars.2.1 22 = .ok (.iconst 5, 1) := by decide +kernel
theorem dX11_readBars_23 : decode mX11_readBars.2.1 23 = .ok (.if_icmp .ne 7, 3) := by decide +kernel
theorem dX11_readBars_26 : decode mX11_readBars.2.1 26 = .ok (.iconst 3, 1) := by decide +kernel
theorem dX11_readBars_27 : decode mX11_readBars.2.1 27 = .ok (.goto 4, 3) := by decide +kernel
theorem dX11_readBars_30 : decode mX11_readBars.2.1 30 = .ok (.iconst 2, 1) := by decide +kernel
theorem dX11_readBars_31 : decode mX11_readBars.2.1 31 = .ok (.istore 5, 2) := by decide +kernel
theorem dX11_readBars_33 : decode mX11_readBars.2.1 33 = .ok (.aload_n 0, 1) := by decide +kernel
theorem dX11_readBars_34 : decode mX11_readBars.2.1 34 = .ok (.invokevirtual 282, 3) := by decide +kernel
theorem dX11_readBars_37 : decode mX11_readBars.2.1 37 = .ok (.ifCond .eq 56, 3) := by decide +kernel
theorem dX11_readBars_40 : decode mX11_readBars.2.1 40 = .ok (.iload 4, 2) := by decide +kernel
theorem dX11_readBars_42 : decode mX11_readBars.2.1 42 = .ok (.iload 5, 2) := by decide +kernel
theorem dX11_readBars_44 : decode mX11_readBars.2.1 44 = .ok (.if_icmp .lt 16, 3) := by decide +kernel
theorem dX11_readBars_47 : decode mX11_readBars.2.1 47 = .ok (.iload_n 1, 1) := by decide +kernel
theorem dX11_readBars_48 : decode mX11_readBars.2.1 48 = .ok (.iconst 3, 1) := by decide +kernel
theorem dX11_readBars_49 : decode mX11_readBars.2.1 49 = .ok (.if_icmp .eq 44, 3) := by decide +kernel
theorem dX11_readBars_52 : decode mX11_readBars.2.1 52 = .ok (.aload_n 0, 1) := by decide +kernel
theorem dX11_readBars_53 : decode mX11_readBars.2.1 53 = .ok (.getfield 253, 3) := by decide +kernel
theorem dX11_readBars_56 : decode mX11_readBars.2.1 56 = .ok (.iconst 2, 1) := by decide +kernel
theorem dX11_readBars_57 : decode mX11_readBars.2.1 57 = .ok (.if_icmp .ne 36, 3) := by decide +kernel
theorem dX11_readBars_60 : decode mX11_readBars.2.1 60 = .ok (.aload_n 0, 1) := by decide +kernel
theorem dX11_readBars_61 : decode mX11_readBars.2.1 61 = .ok (.invokevirtual 332, 3) := by decide +kernel
theorem dX11_readBars_64 : decode mX11_readBars.2.1 64 = .ok (.istore 6, 2) := by decide +kernel
theorem dX11_readBars_66 : decode mX11_readBars.2.1 66 = .ok (.aload_n 0, 1) := by decide +kernel
theorem dX11_readBars_67 : decode mX11_readBars.2.1 67 = .ok (.iload_n 3, 1) := by decide +kernel
theorem dX11_readBars_68 : decode mX11_readBars.2.1 68 = .ok (.iload 6, 2) := by decide +kernel
theorem dX11_readBars_70 : decode mX11_readBars.2.1 70 = .ok (.invokevirtual 335, 3) := by decide +kernel
theorem dX11_readBars_73 : decode mX11_readBars.2.1 73 = .ok (.iload 6, 2) := by decide +kernel
theorem dX11_readBars_75 : decode mX11_readBars.2.1 75 = .ok (.istore_n 3, 1) := by decide +kernel
theorem dX11_readBars_76 : decode mX11_readBars.2.1 76 = .ok (.iinc 4 1, 3) := by decide +kernel
theorem dX11_readBars_79 : decode mX11_readBars.2.1 79 = .ok (.aload_n 0, 1) := by decide +kernel
theorem dX11_readBars_80 : decode mX11_readBars.2.1 80 = .ok (.invokevirtual 282, 3) := by decide +kernel
theorem dX11_readBars_83 : decode mX11_readBars.2.1 83 = .ok (.ifCond .eq 7, 3) := by decide +kernel
theorem dX11_readBars_86 : decode mX11_readBars.2.1 86 = .ok (.aload_n 0, 1) := by decide +kernel
theorem dX11_readBars_87 : decode mX11_readBars.2.1 87 = .ok (.invokevirtual 292, 3) := by decide +kernel
theorem dX11_readBars_90 : decode mX11_readBars.2.1 90 = .ok (.goto (-57), 3) := by decide +kernel
theorem dX11_readBars_93 : decode mX11_readBars.2.1 93 = .ok (.aload_n 0, 1) := by decide +kernel
theorem dX11_readBars_94 : decode mX11_readBars.2.1 94 = .ok (.iconst 4, 1) := by decide +kernel
theorem dX11_readBars_95 : decode mX11_readBars.2.1 95 = .ok (.invokevirtual 289, 3) := by decide +kernel
theorem dX11_readBars_98 : decode mX11_readBars.2.1 98 = .ok (.aload_n 0, 1) := by decide +kernel
theorem dX11_readBars_99 : decode mX11_readBars.2.1 99 = .ok (.invokevirtual 282, 3) := by decide +kernel
theorem dX11_readBars_102 : decode mX11_readBars.2.1 102 = .ok (.ifCond .eq 14, 3) := by decide +kernel
theorem dX11_readBars_105 : decode mX11_readBars.2.1 105 = .ok (.iload_n 1, 1) := by decide +kernel
theorem dX11_readBars_106 : decode mX11_readBars.2.1 106 = .ok (.iconst 5, 1) := by decide +kernel
theorem dX11_readBars_107 : decode mX11_readBars.2.1 107 = .ok (.if_icmp .ne 9, 3) := by decide +kernel
theorem dX11_readBars_110 : decode mX11_readBars.2.1 110 = .ok (.aload_n 0, 1) := by decide +kernel
theorem dX11_readBars_111 : decode mX11_readBars.2.1 111 = .ok (.iload_n 3, 1) := by decide +kernel
theorem dX11_readBars_112 : decode mX11_readBars.2.1 112 = .ok (.iload_n 2, 1) := by decide +kernel
theorem dX11_readBars_113 : decode mX11_readBars.2.1 113 = .ok (.invokevirtual 335, 3) := by decide +kernel
theorem dX11_readBars_116 : decode mX11_readBars.2.1 116 = .ok (.aload_n 0, 1) := by decide +kernel
theorem dX11_readBars_117 : decode mX11_readBars.2.1 117 = .ok (.invokevirtual 322, 3) := by decide +kernel
theorem dX11_readBars_120 : decode mX11_readBars.2.1 120 = .ok (.return_, 1) := by decide +kernel
theorem okX11_readBars_332 : gOkV mX11_readBars mX11_oldJoint 332 0 := ⟨List.forall_mem_cons.mpr ⟨(gm 1621 (by decide +kernel) rfl), List.forall_mem_cons.mpr ⟨(gm 1618 (by decide +kernel) rfl), List.forall_mem_cons.mpr ⟨(gm 1620 (by decide +kernel) rfl), List.forall_mem_cons.mpr ⟨(gm 72 (by decide +kernel) rfl), List.forall_mem_cons.mpr ⟨(gm 122 (by decide +kernel) rfl), fun _ h => absurd h List.not_mem_nil⟩⟩⟩⟩⟩, by decide +kernel, by decide +kernel, by decide +kernel⟩
theorem okX11_readBars_335 : gOkV mX11_readBars mX11_addBar 335 2 := ⟨List.forall_mem_cons.mpr ⟨(gm 1625 (by decide +kernel) rfl), List.forall_mem_cons.mpr ⟨(gm 1622 (by decide +kernel) rfl), List.forall_mem_cons.mpr ⟨(gm 1624 (by decide +kernel) rfl), List.forall_mem_cons.mpr ⟨(gm 73 (by decide +kernel) rfl), List.forall_mem_cons.mpr ⟨(gm 122 (by decide +kernel) rfl), fun _ h => absurd h List.not_mem_nil⟩⟩⟩⟩⟩, by decide +kernel, by decide +kernel, by decide +kernel⟩
theorem okX11_readBars_282 : gOkV mX11_readBars mX11_good 282 0 := ⟨List.forall_mem_cons.mpr ⟨(gm 1577 (by decide +kernel) rfl), List.forall_mem_cons.mpr ⟨(gm 1574 (by decide +kernel) rfl), List.forall_mem_cons.mpr ⟨(gm 1576 (by decide +kernel) rfl), List.forall_mem_cons.mpr ⟨(gm 61 (by decide +kernel) rfl), List.forall_mem_cons.mpr ⟨(gm 122 (by decide +kernel) rfl), fun _ h => absurd h List.not_mem_nil⟩⟩⟩⟩⟩, by decide +kernel, by decide +kernel, by decide +kernel⟩
theorem okX11_readBars_292 : gOkV mX11_readBars mX11_next 292 0 := ⟨List.forall_mem_cons.mpr ⟨(gm 1550 (by decide +kernel) rfl), List.forall_mem_cons.mpr ⟨(gm 1547 (by decide +kernel) rfl), List.forall_mem_cons.mpr ⟨(gm 1549 (by decide +kernel) rfl), List.forall_mem_cons.mpr ⟨(gm 57 (by decide +kernel) rfl), List.forall_mem_cons.mpr ⟨(gm 122 (by decide +kernel) rfl), fun _ h => absurd h List.not_mem_nil⟩⟩⟩⟩⟩, by decide +kernel, by decide +kernel, by decide +kernel⟩
theorem okX11_readBars_322 : gOkV mX11_readBars mX11_stop 322 0 := ⟨List.forall_mem_cons.mpr ⟨(gm 1613 (by decide +kernel) rfl), List.forall_mem_cons.mpr ⟨(gm 1610 (by decide +kernel) rfl), List.forall_mem_cons.mpr ⟨(gm 1612 (by decide +kernel) rfl), List.forall_mem_cons.mpr ⟨(gm 70 (by decide +kernel) rfl), List.forall_mem_cons.mpr ⟨(gm 122 (by decide +kernel) rfl), fun _ h => absurd h List.not_mem_nil⟩⟩⟩⟩⟩, by decide +kernel, by decide +kernel, by decide +kernel⟩
theorem okX11_readBars_289 : gOkV mX11_readBars mX11_want 289 1 := ⟨List.forall_mem_cons.mpr ⟨(gm 1581 (by decide +kernel) rfl), List.forall_mem_cons.mpr ⟨(gm 1578 (by decide +kernel) rfl), List.forall_mem_cons.mpr ⟨(gm 1580 (by decide +kernel) rfl), List.forall_mem_cons.mpr ⟨(gm 62 (by decide +kernel) rfl), List.forall_mem_cons.mpr ⟨(gm 122 (by decide +kernel) rfl), fun _ h => absurd h List.not_mem_nil⟩⟩⟩⟩⟩, by decide +kernel, by decide +kernel, by decide +kernel⟩
def fX11_readBars_90 (p1 : Int32) (k33 : Int32 → Int32 → Int32 → Int32 → gS → Option (Unit × gS)) (v2 : Int32) (v3 : Int32) (v4 : Int32) (v5 : Int32) (σ : gS) : Option (Unit × gS) :=
  k33 v2 v3 v4 v5 σ
set_option maxHeartbeats 4000000 in
set_option maxRecDepth 100000 in
theorem pX11_readBars_90 {E : gE} {p1 : Int32} {k33 : Int32 → Int32 → Int32 → Int32 → gS → Option (Unit × gS)} {r : Unit} {σ' : gS} {v2 : Int32} {v3 : Int32} {v4 : Int32} {v5 : Int32} {σ : gS} (hk33 : ∀ (v2 : Int32) (v3 : Int32) (v4 : Int32) (v5 : Int32) (σ : gS), k33 v2 v3 v4 v5 σ = some (r, σ') → gG E mX11_readBars 33 [(0, .ref 168), (1, .int p1), (2, .int v2), (3, .int v3), (4, .int v4), (5, .int v5)] [] σ (none) σ') (h : fX11_readBars_90 p1 k33 v2 v3 v4 v5 σ = some (r, σ')) : gG E mX11_readBars 90 [(0, .ref 168), (1, .int p1), (2, .int v2), (3, .int v3), (4, .int v4), (5, .int v5)] [] σ (none) σ' := by
  unfold fX11_readBars_90 at h
  refine g_goto (t := 33) dX11_readBars_90 (by decide) ?_
  exact hk33 v2 v3 v4 v5 σ h
def fX11_readBars_60 (p1 : Int32) (k33 : Int32 → Int32 → Int32 → Int32 → gS → Option (Unit × gS)) (v2 : Int32) (v3 : Int32) (v4 : Int32) (v5 : Int32) (σ : gS) : Option (Unit × gS) :=
  bd (fX11_oldJoint σ) fun x1 σ2 =>
  bd (fX11_addBar v3 x1 σ2) fun _ σ4 =>
  bnd (v4 + 1) fun x6 =>
  bd (fX11_good σ4) fun x7 σ8 =>
  if x7 = 0 then
    fX11_readBars_90 p1 k33 v2 x1 x6 v5 σ8
  else
    bd (fX11_next σ8) fun _ σ11 =>
    fX11_readBars_90 p1 k33 v2 x1 x6 v5 σ11
set_option maxHeartbeats 4000000 in
set_option maxRecDepth 100000 in
theorem pX11_readBars_60 {E : gE} {p1 : Int32} {k33 : Int32 → Int32 → Int32 → Int32 → gS → Option (Unit × gS)} {r : Unit} {σ' : gS} {v2 : Int32} {v3 : Int32} {v4 : Int32} {v5 : Int32} {σ : gS} (hk33 : ∀ (v2 : Int32) (v3 : Int32) (v4 : Int32) (v5 : Int32) (σ : gS), k33 v2 v3 v4 v5 σ = some (r, σ') → gG E mX11_readBars 33 [(0, .ref 168), (1, .int p1), (2, .int v2), (3, .int v3), (4, .int v4), (5, .int v5)] [] σ (none) σ') (h : fX11_readBars_60 p1 k33 v2 v3 v4 v5 σ = some (r, σ')) : gG E mX11_readBars 60 [(0, .ref 168), (1, .int p1), (2, .int v2), (3, .int v3), (4, .int v4), (5, .int v5)] [] σ (none) σ' := by
  unfold fX11_readBars_60 at h
  refine g_aload_n dX11_readBars_60 rfl 0 rfl ?_
  obtain ⟨x1, σ2, y3, h⟩ := bd_some h
  refine g_callVr (as := []) (st := []) (zX11_oldJoint y3) dX11_readBars_61 gi_168 rfl okX11_readBars_332 (Nat.le_of_ble_eq_true rfl) ?_
  refine g_istore (lv' := [(6, .int x1), (0, .ref 168), (1, .int p1), (2, .int v2), (3, .int v3), (4, .int v4), (5, .int v5)]) dX11_readBars_64 (Nat.le_of_ble_eq_true rfl) rfl ?_
  refine g_aload_n dX11_readBars_66 rfl 1 rfl ?_
  refine g_iload_n dX11_readBars_67 rfl 4 rfl ?_
  refine g_iload dX11_readBars_68 0 rfl ?_
  obtain ⟨_, σ4, y5, h⟩ := bd_some h
  refine g_callVv (as := [.int v3, .int x1]) (st := []) (zX11_addBar y5) dX11_readBars_70 gi_168 rfl okX11_readBars_335 (Nat.le_of_ble_eq_true rfl) ?_
  refine g_iload dX11_readBars_73 0 rfl ?_
  refine g_istore_n (lv' := [(3, .int x1), (6, .int x1), (0, .ref 168), (1, .int p1), (2, .int v2), (4, .int v4), (5, .int v5)]) dX11_readBars_75 rfl (Nat.le_of_ble_eq_true rfl) rfl ?_
  obtain ⟨x6, ex6, h⟩ := bnd_nm h
  refine g_iinc (j := 5) (v := x6) (lv' := [(4, .int x6), (3, .int x1), (6, .int x1), (0, .ref 168), (1, .int p1), (2, .int v2), (5, .int v5)]) dX11_readBars_76 rfl (by rw [ex6]; rfl) (Nat.le_of_ble_eq_true rfl) rfl ?_
  refine g_aload_n dX11_readBars_79 rfl 3 rfl ?_
  obtain ⟨x7, σ8, y9, h⟩ := bd_some h
  refine g_callVr (as := []) (st := []) (zX11_good y9) dX11_readBars_80 gi_168 rfl okX11_readBars_282 (Nat.le_of_ble_eq_true rfl) ?_
  refine g_if_eq (t := 90) dX11_readBars_83 (by decide) (fun c10 => ?_) (fun c10 => ?_)
  · replace h := if_t h c10
    refine g_sub [3, 4, 5, 1, 0, 6] rfl ?_
    exact pX11_readBars_90 hk33 h
  · replace h := if_f h c10
    refine g_aload_n dX11_readBars_86 rfl 3 rfl ?_
    obtain ⟨_, σ11, y12, h⟩ := bd_some h
    refine g_callVv (as := []) (st := []) (zX11_next y12) dX11_readBars_87 gi_168 rfl okX11_readBars_292 (Nat.le_of_ble_eq_true rfl) ?_
    refine g_sub [3, 4, 5, 1, 0, 6] rfl ?_
    exact pX11_readBars_90 hk33 h
def fX11_readBars_116 (p1 : Int32) (σ : gS) : Option (Unit × gS) :=
  bd (fX11_stop σ) fun _ σ1 =>
  some ((), σ1)
set_option maxHeartbeats 4000000 in
set_option maxRecDepth 100000 in
theorem pX11_readBars_116 {E : gE} {p1 : Int32} {r : Unit} {σ' : gS} {σ : gS} (h : fX11_readBars_116 p1 σ = some (r, σ')) : gG E mX11_readBars 116 [(0, .ref 168)] [] σ (none) σ' := by
  unfold fX11_readBars_116 at h
  refine g_aload_n dX11_readBars_116 rfl 0 rfl ?_
  obtain ⟨_, σ1, y2, h⟩ := bd_some h
  refine g_callVv (as := []) (st := []) (zX11_stop y2) dX11_readBars_117 gi_168 rfl okX11_readBars_322 (Nat.le_of_ble_eq_true rfl) ?_
  obtain ⟨rfl, rfl⟩ := so_inj h
  exact g_vret dX11_readBars_120 rfl
def fX11_readBars_93 (p1 : Int32) (v2 : Int32) (v3 : Int32) (σ : gS) : Option (Unit × gS) :=
  bd (fX11_want 4 σ) fun _ σ1 =>
  bd (fX11_good σ1) fun x3 σ4 =>
  if x3 = 0 then
    fX11_readBars_116 p1 σ4
  else
    if p1 = 5 then
      bd (fX11_addBar v3 v2 σ4) fun _ σ8 =>
      fX11_readBars_116 p1 σ8
    else
      fX11_readBars_116 p1 σ4
set_option maxHeartbeats 4000000 in
set_option maxRecDepth 100000 in
theorem pX11_readBars_93 {E : gE} {p1 : Int32} {r : Unit} {σ' : gS} {v2 : Int32} {v3 : Int32} {σ : gS} (h : fX11_readBars_93 p1 v2 v3 σ = some (r, σ')) : gG E mX11_readBars 93 [(0, .ref 168), (1, .int p1), (2, .int v2), (3, .int v3)] [] σ (none) σ' := by
  unfold fX11_readBars_93 at h
  refine g_aload_n dX11_readBars_93 rfl 0 rfl ?_
  refine g_iconst (v := 4) dX11_readBars_94 (by decide) ?_
  obtain ⟨_, σ1, y2, h⟩ := bd_some h
  refine g_callVv (as := [.int 4]) (st := []) (zX11_want y2) dX11_readBars_95 gi_168 rfl okX11_readBars_289 (Nat.le_of_ble_eq_true rfl) ?_
  refine g_aload_n dX11_readBars_98 rfl 0 rfl ?_
  obtain ⟨x3, σ4, y5, h⟩ := bd_some h
  refine g_callVr (as := []) (st := []) (zX11_good y5) dX11_readBars_99 gi_168 rfl okX11_readBars_282 (Nat.le_of_ble_eq_true rfl) ?_
  refine g_if_eq (t := 116) dX11_readBars_102 (by decide) (fun c6 => ?_) (fun c6 => ?_)
  · replace h := if_t h c6
    refine g_sub [0] rfl ?_
    exact pX11_readBars_116 h
  · replace h := if_f h c6
    refine g_iload_n dX11_readBars_105 rfl 1 rfl ?_
    refine g_iconst (v := 5) dX11_readBars_106 (by decide) ?_
    refine g_icmp_ne (t := 116) dX11_readBars_107 (by decide) (fun c7 => ?_) (fun c7 => ?_)
    · replace h := if_f h c7
      refine g_sub [0] rfl ?_
      exact pX11_readBars_116 h
    · replace h := if_t h c7
      refine g_aload_n dX11_readBars_110 rfl 0 rfl ?_
      refine g_iload_n dX11_readBars_111 rfl 3 rfl ?_
      refine g_iload_n dX11_readBars_112 rfl 2 rfl ?_
      obtain ⟨_, σ8, y9, h⟩ := bd_some h
      refine g_callVv (as := [.int v3, .int v2]) (st := []) (zX11_addBar y9) dX11_readBars_113 gi_168 rfl okX11_readBars_335 (Nat.le_of_ble_eq_true rfl) ?_
      refine g_sub [0] rfl ?_
      exact pX11_readBars_116 h
def fX11_readBars_33 (p1 : Int32) : Nat → Int32 → Int32 → Int32 → Int32 → gS → Option (Unit × gS)
  | 0, _, _, _, _, _ => none
  | n + 1, v2, v3, v4, v5, σ => bd (fX11_good σ) fun x1 σ2 =>
  if x1 = 0 then
    fX11_readBars_93 p1 v2 v3 σ2
  else
    if v4 < v5 then
      fX11_readBars_60 p1 (fun v2 v3 v4 v5 σ => fX11_readBars_33 p1 n v2 v3 v4 v5 σ) v2 v3 v4 v5 σ2
    else
      if p1 = 3 then
        fX11_readBars_93 p1 v2 v3 σ2
      else
        if (σ2.1 168 45) = 2 then
          fX11_readBars_60 p1 (fun v2 v3 v4 v5 σ => fX11_readBars_33 p1 n v2 v3 v4 v5 σ) v2 v3 v4 v5 σ2
        else
          fX11_readBars_93 p1 v2 v3 σ2
set_option maxHeartbeats 4000000 in
set_option maxRecDepth 100000 in
theorem pX11_readBars_33 {E : gE} {p1 : Int32} {r : Unit} {σ' : gS} : ∀ (n : Nat) (v2 : Int32) (v3 : Int32) (v4 : Int32) (v5 : Int32) (σ : gS), fX11_readBars_33 p1 n v2 v3 v4 v5 σ = some (r, σ') → gG E mX11_readBars 33 [(0, .ref 168), (1, .int p1), (2, .int v2), (3, .int v3), (4, .int v4), (5, .int v5)] [] σ (none) σ' := by
  intro n
  induction n with
  | zero => intro v2 v3 v4 v5 σ h; exact absurd (show none = some (r, σ') from h) (by intro q; cases q)
  | succ n ih =>
  intro v2 v3 v4 v5 σ h
  unfold fX11_readBars_33 at h
  refine g_aload_n dX11_readBars_33 rfl 0 rfl ?_
  obtain ⟨x1, σ2, y3, h⟩ := bd_some h
  refine g_callVr (as := []) (st := []) (zX11_good y3) dX11_readBars_34 gi_168 rfl okX11_readBars_282 (Nat.le_of_ble_eq_true rfl) ?_
  refine g_if_eq (t := 93) dX11_readBars_37 (by decide) (fun c4 => ?_) (fun c4 => ?_)
  · replace h := if_t h c4
    refine g_sub [0, 1, 2, 3] rfl ?_
    exact pX11_readBars_93 h
  · replace h := if_f h c4
    refine g_iload dX11_readBars_40 4 rfl ?_
    refine g_iload dX11_readBars_42 5 rfl ?_
    refine g_icmp_lt (t := 60) dX11_readBars_44 (by decide) (fun c5 => ?_) (fun c5 => ?_)
    · replace h := if_t h c5
      exact pX11_readBars_60 (fun v2 v3 v4 v5 σ h => ih v2 v3 v4 v5 σ h) h
    · replace h := if_f h c5
      refine g_iload_n dX11_readBars_47 rfl 1 rfl ?_
      refine g_iconst (v := 3) dX11_readBars_48 (by decide) ?_
      refine g_icmp_eq (t := 93) dX11_readBars_49 (by decide) (fun c6 => ?_) (fun c6 => ?_)
      · replace h := if_t h c6
        refine g_sub [0, 1, 2, 3] rfl ?_
        exact pX11_readBars_93 h
      · replace h := if_f h c6
        refine g_aload_n dX11_readBars_52 rfl 0 rfl ?_
        refine g_getI dX11_readBars_53 gi_168 rfl fl_RX11_253 ?_
        refine g_iconst (v := 2) dX11_readBars_56 (by decide) ?_
        refine g_icmp_ne (t := 93) dX11_readBars_57 (by decide) (fun c7 => ?_) (fun c7 => ?_)
        · replace h := if_f h c7
          refine g_sub [0, 1, 2, 3] rfl ?_
          exact pX11_readBars_93 h
        · replace h := if_t h c7
          exact pX11_readBars_60 (fun v2 v3 v4 v5 σ h => ih v2 v3 v4 v5 σ h) h
def fX11_readBars_31 (p1 : Int32) (v2 : Int32) (v3 : Int32) (v4 : Int32) (s0 : Int32) (σ : gS) : Option (Unit × gS) :=
  fX11_readBars_33 p1 2000 v2 v3 v4 s0 σ
set_option maxHeartbeats 4000000 in
set_option maxRecDepth 100000 in
theorem pX11_readBars_31 {E : gE} {p1 : Int32} {r : Unit} {σ' : gS} {v2 : Int32} {v3 : Int32} {v4 : Int32} {s0 : Int32} {σ : gS} (h : fX11_readBars_31 p1 v2 v3 v4 s0 σ = some (r, σ')) : gG E mX11_readBars 31 [(0, .ref 168), (1, .int p1), (2, .int v2), (3, .int v3), (4, .int v4)] [.int s0] σ (none) σ' := by
  unfold fX11_readBars_31 at h
  refine g_istore (lv' := [(5, .int s0), (0, .ref 168), (1, .int p1), (2, .int v2), (3, .int v3), (4, .int v4)]) dX11_readBars_31 (Nat.le_of_ble_eq_true rfl) rfl ?_
  refine g_sub [1, 2, 3, 4, 5, 0] rfl ?_
  exact pX11_readBars_33 2000 v2 v3 v4 s0 σ h
def fX11_readBars_21 (p1 : Int32) (v2 : Int32) (v3 : Int32) (v4 : Int32) (σ : gS) : Option (Unit × gS) :=
  if p1 = 5 then
    fX11_readBars_31 p1 v2 v3 v4 3 σ
  else
    fX11_readBars_31 p1 v2 v3 v4 2 σ
set_option maxHeartbeats 4000000 in
set_option maxRecDepth 100000 in
theorem pX11_readBars_21 {E : gE} {p1 : Int32} {r : Unit} {σ' : gS} {v2 : Int32} {v3 : Int32} {v4 : Int32} {σ : gS} (h : fX11_readBars_21 p1 v2 v3 v4 σ = some (r, σ')) : gG E mX11_readBars 21 [(0, .ref 168), (1, .int p1), (2, .int v2), (3, .int v3), (4, .int v4)] [] σ (none) σ' := by
  unfold fX11_readBars_21 at h
  refine g_iload_n dX11_readBars_21 rfl 1 rfl ?_
  refine g_iconst (v := 5) dX11_readBars_22 (by decide) ?_
  refine g_icmp_ne (t := 30) dX11_readBars_23 (by decide) (fun c1 => ?_) (fun c1 => ?_)
  · replace h := if_f h c1
    refine g_iconst (v := 2) dX11_readBars_30 (by decide) ?_
    exact pX11_readBars_31 h
  · replace h := if_t h c1
    refine g_iconst (v := 3) dX11_readBars_26 (by decide) ?_
    refine g_goto (t := 31) dX11_readBars_27 (by decide) ?_
    exact pX11_readBars_31 h
def fX11_readBars (p1 : Int32) (σ : gS) : Option (Unit × gS) :=
  bd (fX11_oldJoint σ) fun x1 σ2 =>
  bd (fX11_good σ2) fun x4 σ5 =>
  if x4 = 0 then
    fX11_readBars_21 p1 x1 x1 1 σ5
  else
    bd (fX11_next σ5) fun _ σ8 =>
    fX11_readBars_21 p1 x1 x1 1 σ8
set_option maxHeartbeats 4000000 in
set_option maxRecDepth 100000 in
theorem pX11_readBars {E : gE} {p1 : Int32} {r : Unit} {σ' : gS} {σ : gS} (h : fX11_readBars p1 σ = some (r, σ')) : gG E mX11_readBars 0 [(0, .ref 168), (1, .int p1)] [] σ (none) σ' := by
  unfold fX11_readBars at h
  refine g_aload_n dX11_readBars_0 rfl 0 rfl ?_
  obtain ⟨x1, σ2, y3, h⟩ := bd_some h
  refine g_callVr (as := []) (st := []) (zX11_oldJoint y3) dX11_readBars_1 gi_168 rfl okX11_readBars_332 (Nat.le_of_ble_eq_true rfl) ?_
  refine g_istore_n (lv' := [(2, .int x1), (0, .ref 168), (1, .int p1)]) dX11_readBars_4 rfl (Nat.le_of_ble_eq_true rfl) rfl ?_
  refine g_iload_n dX11_readBars_5 rfl 0 rfl ?_
  refine g_istore_n (lv' := [(3, .int x1), (2, .int x1), (0, .ref 168), (1, .int p1)]) dX11_readBars_6 rfl (Nat.le_of_ble_eq_true rfl) rfl ?_
  refine g_iconst (v := 1) dX11_readBars_7 (by decide) ?_
  refine g_istore (lv' := [(4, .int 1), (3, .int x1), (2, .int x1), (0, .ref 168), (1, .int p1)]) dX11_readBars_8 (Nat.le_of_ble_eq_true rfl) rfl ?_
  refine g_aload_n dX11_readBars_10 rfl 3 rfl ?_
  obtain ⟨x4, σ5, y6, h⟩ := bd_some h
  refine g_callVr (as := []) (st := []) (zX11_good y6) dX11_readBars_11 gi_168 rfl okX11_readBars_282 (Nat.le_of_ble_eq_true rfl) ?_
  refine g_if_eq (t := 21) dX11_readBars_14 (by decide) (fun c7 => ?_) (fun c7 => ?_)
  · replace h := if_t h c7
    refine g_sub [3, 4, 2, 1, 0] rfl ?_
    exact pX11_readBars_21 h
  · replace h := if_f h c7
    refine g_aload_n dX11_readBars_17 rfl 3 rfl ?_
    obtain ⟨_, σ8, y9, h⟩ := bd_some h
    refine g_callVv (as := []) (st := []) (zX11_next y9) dX11_readBars_18 gi_168 rfl okX11_readBars_292 (Nat.le_of_ble_eq_true rfl) ?_
    refine g_sub [3, 4, 2, 1, 0] rfl ?_
    exact pX11_readBars_21 h
theorem zX11_readBars {E : gE} {p1 : Int32} {r : Unit} {σ σ' : gS} (h : fX11_readBars p1 σ = some (r, σ')) : gC E mX11_readBars [.ref 168, .int p1] σ (none) σ' :=
  gC_of (by decide +kernel) rfl (Nat.le_of_ble_eq_true rfl) (pX11_readBars h)
theorem fl_RX11_76 : gFl RX11 76 11 28 := ⟨RX11, TX11, 101, rfl, by decide, ux_11, Or.inl (gm 1256 (by decide +kernel) rfl)⟩
theorem fl_RX11_79 : gFl RX11 79 11 29 := ⟨RX11, TX11, 101, rfl, by decide, ux_11, Or.inl (gm 1257 (by decide +kernel) rfl)⟩
theorem fp_RX11_298 : gFp RX11 298 11 26 .int := ⟨RX11, TX11, 101, rfl, by decide, ux_11, Or.inl (gm 1254 (by decide +kernel) rfl), rfl, by decide +kernel, ⟨tyX11, tyX11_ok⟩, nmX11⟩
def mX11_readWheel : gM := (yX11_readWheel, cX11_readWheel, RX11, 5, none, 4, 95)
theorem dX11_readWheel_0 : decode mX11_readWheel.2.1 0 = .ok (.aload_n 0, 1) := by decide +kernel
theorem dX11_readWheel_1 : decode mX11_readWheel.2.1 1 = .ok (.aload_n 0, 1) := by decide +kernel
theorem dX11_readWheel_2 : decode mX11_readWheel.2.1 2 = .ok (.getfield 298, 3) := by decide +kernel
theorem dX11_readWheel_5 : decode mX11_readWheel.2.1 5 = .ok (.bipush 16, 2) := by decide +kernel
theorem dX11_readWheel_7 : decode mX11_readWheel.2.1 7 = .ok (.if_icmp .ne 7, 3) := by decide +kernel
theorem dX11_readWheel_10 : decode mX11_readWheel.2.1 10 = .ok (.iconst 1, 1) := by decide +kernel
theorem dX11_readWheel_11 : decode mX11_readWheel.2.1 11 = .ok (.goto 4, 3) := by decide +kernel
theorem dX11_readWheel_14 : decode mX11_readWheel.2.1 14 = .ok (.iconst 0, 1) := by decide +kernel
theorem dX11_readWheel_15 : decode mX11_readWheel.2.1 15 = .ok (.invokevirtual 310, 3) := by decide +kernel
theorem dX11_readWheel_18 : decode mX11_readWheel.2.1 18 = .ok (.aload_n 0, 1) := by decide +kernel
theorem dX11_readWheel_19 : decode mX11_readWheel.2.1 19 = .ok (.invokevirtual 282, 3) := by decide +kernel
theorem dX11_readWheel_22 : decode mX11_readWheel.2.1 22 = .ok (.ifCond .ne 4, 3) := by decide +kernel
theorem dX11_readWheel_25 : decode mX11_readWheel.2.1 25 = .ok (.return_, 1) := by decide +kernel
theorem dX11_readWheel_26 : decode mX11_readWheel.2.1 26 = .ok (.aload_n 0, 1) := by decide +kernel
theorem dX11_readWheel_27 : decode mX11_readWheel.2.1 27 = .ok (.getfield 260, 3) := by decide +kernel
theorem dX11_readWheel_30 : decode mX11_readWheel.2.1 30 = .ok (.lstore_n 1, 1) := by decide +kernel
theorem dX11_readWheel_31 : decode mX11_readWheel.2.1 31 = .ok (.aload_n 0, 1) := by decide +kernel
theorem dX11_readWheel_32 : decode mX11_readWheel.2.1 32 = .ok (.invokevirtual 292, 3) := by decide +kernel
theorem dX11_readWheel_35 : decode mX11_readWheel.2.1 35 = .ok (.aload_n 0, 1) := by decide +kernel
theorem dX11_readWheel_36 : decode mX11_readWheel.2.1 36 = .ok (.bipush 11, 2) := by decide +kernel
theorem dX11_readWheel_38 : decode mX11_readWheel.2.1 38 = .ok (.invokevirtual 338, 3) := by decide +kernel
theorem dX11_readWheel_41 : decode mX11_readWheel.2.1 41 = .ok (.aload_n 0, 1) := by decide +kernel
theorem dX11_readWheel_42 : decode mX11_readWheel.2.1 42 = .ok (.invokevirtual 282, 3) := by decide +kernel
theorem dX11_readWheel_45 : decode mX11_readWheel.2.1 45 = .ok (.ifCond .eq 10, 3) := by decide +kernel
theorem dX11_readWheel_48 : decode mX11_readWheel.2.1 48 = .ok (.aload_n 0, 1) := by decide +kernel
theorem dX11_readWheel_49 : decode mX11_readWheel.2.1 49 = .ok (.invokevirtual 332, 3) := by decide +kernel
theorem dX11_readWheel_52 : decode mX11_readWheel.2.1 52 = .ok (.goto 4, 3) := by decide +kernel
theorem dX11_readWheel_55 : decode mX11_readWheel.2.1 55 = .ok (.iconst (-1), 1) := by decide +kernel
theorem dX11_readWheel_56 : decode mX11_readWheel.2.1 56 = .ok (.istore_n 3, 1) := by decide +kernel
theorem dX11_readWheel_57 : decode mX11_readWheel.2.1 57 = .ok (.aload_n 0, 1) := by decide +kernel
theorem dX11_readWheel_58 : decode mX11_readWheel.2.1 58 = .ok (.invokevirtual 282, 3) := by decide +kernel
theorem dX11_readWheel_61 : decode mX11_readWheel.2.1 61 = .ok (.ifCond .eq 7, 3) := by decide +kernel
theorem dX11_readWheel_64 : decode mX11_readWheel.2.1 64 = .ok (.aload_n 0, 1) := by decide +kernel
theorem dX11_readWheel_65 : decode mX11_readWheel.2.1 65 = .ok (.invokevirtual 292, 3) := by decide +kernel
theorem dX11_readWheel_68 : decode mX11_readWheel.2.1 68 = .ok (.aload_n 0, 1) := by decide +kernel
theorem dX11_readWheel_69 : decode mX11_readWheel.2.1 69 = .ok (.iconst 3, 1) := by decide +kernel
theorem dX11_readWheel_70 : decode mX11_readWheel.2.1 70 = .ok (.sipush 200, 3) := by decide +kernel
theorem dX11_readWheel_73 : decode mX11_readWheel.2.1 73 = .ok (.invokevirtual 318, 3) := by decide +kernel
theorem dX11_readWheel_76 : decode mX11_readWheel.2.1 76 = .ok (.istore 4, 2) := by decide +kernel
theorem dX11_readWheel_78 : decode mX11_readWheel.2.1 78 = .ok (.aload_n 0, 1) := by decide +kernel
theorem dX11_readWheel_79 : decode mX11_readWheel.2.1 79 = .ok (.invokevirtual 282, 3) := by decide +kernel
theorem dX11_readWheel_82 : decode mX11_readWheel.2.1 82 = .ok (.ifCond .eq 55, 3) := by decide +kernel
theorem dX11_readWheel_85 : decode mX11_readWheel.2.1 85 = .ok (.aload_n 0, 1) := by decide +kernel
theorem dX11_readWheel_86 : decode mX11_readWheel.2.1 86 = .ok (.getfield 73, 3) := by decide +kernel
theorem dX11_readWheel_89 : decode mX11_readWheel.2.1 89 = .ok (.aload_n 0, 1) := by decide +kernel
theorem dX11_readWheel_90 : decode mX11_readWheel.2.1 90 = .ok (.getfield 298, 3) := by decide +kernel
theorem dX11_readWheel_93 : decode mX11_readWheel.2.1 93 = .ok (.lload_n 1, 1) := by decide +kernel
theorem dX11_readWheel_94 : decode mX11_readWheel.2.1 94 = .ok (.lastore, 1) := by decide +kernel
theorem dX11_readWheel_95 : decode mX11_readWheel.2.1 95 = .ok (.aload_n 0, 1) := by decide +kernel
theorem dX11_readWheel_96 : decode mX11_readWheel.2.1 96 = .ok (.getfield 76, 3) := by decide +kernel
theorem dX11_readWheel_99 : decode mX11_readWheel.2.1 99 = .ok (.aload_n 0, 1) := by decide +kernel
theorem dX11_readWheel_100 : decode mX11_readWheel.2.1 100 = .ok (.getfield 298, 3) := by decide +kernel
theorem dX11_readWheel_103 : decode mX11_readWheel.2.1 103 = .ok (.iload_n 3, 1) := by decide +kernel
theorem dX11_readWheel_104 : decode mX11_readWheel.2.1 104 = .ok (.iastore, 1) := by decide +kernel
theorem dX11_readWheel_105 : decode mX11_readWheel.2.1 105 = .ok (.aload_n 0, 1) := by decide +kernel
theorem dX11_readWheel_106 : decode mX11_readWheel.2.1 106 = .ok (.getfield 79, 3) := by decide +kernel
theorem dX11_readWheel_109 : decode mX11_readWheel.2.1 109 = .ok (.aload_n 0, 1) := by decide +kernel
theorem dX11_readWheel_110 : decode mX11_readWheel.2.1 110 = .ok (.getfield 298, 3) := by decide +kernel
theorem dX11_readWheel_113 : decode mX11_readWheel.2.1 113 = .ok (.iload 4, 2) := by decide +kernel
theorem dX11_readWheel_115 : decode mX11_readWheel.2.1 115 = .ok (.iastore, 1) := by decide +kernel
theorem dX11_readWheel_116 : decode mX11_readWheel.2.1 116 = .ok (.aload_n 0, 1) := by decide +kernel
theorem dX11_readWheel_117 : decode mX11_readWheel.2.1 117 = .ok (.dup, 1) := by decide +kernel
theorem dX11_readWheel_118 : decode mX11_readWheel.2.1 118 = .ok (.getfield 298, 3) := by decide +kernel
theorem dX11_readWheel_121 : decode mX11_readWheel.2.1 121 = .ok (.iconst 1, 1) := by decide +kernel
theorem dX11_readWheel_122 : decode mX11_readWheel.2.1 122 = .ok (.iadd, 1) := by decide +kernel
theorem dX11_readWheel_123 : decode mX11_readWheel.2.1 123 = .ok (.putfield 298, 3) := by decide +kernel
theorem dX11_readWheel_126 : decode mX11_readWheel.2.1 126 = .ok (.aload_n 0, 1) := by decide +kernel
theorem dX11_readWheel_127 : decode mX11_readWheel.2.1 127 = .ok (.iconst 3, 1) := by decide +kernel
theorem dX11_readWheel_128 : decode mX11_readWheel.2.1 128 = .ok (.aload_n 0, 1) := by decide +kernel
theorem dX11_readWheel_129 : decode mX11_readWheel.2.1 129 = .ok (.getfield 298, 3) := by decide +kernel
theorem dX11_readWheel_132 : decode mX11_readWheel.2.1 132 = .ok (.iconst 1, 1) := by decide +kernel
theorem dX11_readWheel_133 : decode mX11_readWheel.2.1 133 = .ok (.isub, 1) := by decide +kernel
theorem dX11_readWheel_134 : decode mX11_readWheel.2.1 134 = .ok (.invokevirtual 314, 3) := by decide +kernel
theorem dX11_readWheel_137 : decode mX11_readWheel.2.1 137 = .ok (.aload_n 0, 1) := by decide +kernel
theorem dX11_readWheel_138 : decode mX11_readWheel.2.1 138 = .ok (.invokevirtual 322, 3) := by decide +kernel
theorem dX11_readWheel_141 : decode mX11_readWheel.2.1 141 = .ok (.return_, 1) := by decide +kernel
theorem okX11_readWheel_322 : gOkV mX11_readWheel mX11_stop 322 0 := ⟨List.forall_mem_cons.mpr ⟨(gm 1613 (by decide +kernel) rfl), List.forall_mem_cons.mpr ⟨(gm 1610 (by decide +kernel) rfl), List.forall_mem_cons.mpr ⟨(gm 1612 (by decide +kernel) rfl), List.forall_mem_cons.mpr ⟨(gm 70 (by decide +kernel) rfl), List.forall_mem_cons.mpr ⟨(gm 122 (by decide +kernel) rfl), fun _ h => absurd h List.not_mem_nil⟩⟩⟩⟩⟩, by decide +kernel, by decide +kernel, by decide +kernel⟩
theorem okX11_readWheel_318 : gOkV mX11_readWheel mX11_bounded 318 2 := ⟨List.forall_mem_cons.mpr ⟨(gm 1609 (by decide +kernel) rfl), List.forall_mem_cons.mpr ⟨(gm 1606 (by decide +kernel) rfl), List.forall_mem_cons.mpr ⟨(gm 1608 (by decide +kernel) rfl), List.forall_mem_cons.mpr ⟨(gm 69 (by decide +kernel) rfl), List.forall_mem_cons.mpr ⟨(gm 122 (by decide +kernel) rfl), fun _ h => absurd h List.not_mem_nil⟩⟩⟩⟩⟩, by decide +kernel, by decide +kernel, by decide +kernel⟩
theorem okX11_readWheel_282 : gOkV mX11_readWheel mX11_good 282 0 := ⟨List.forall_mem_cons.mpr ⟨(gm 1577 (by decide +kernel) rfl), List.forall_mem_cons.mpr ⟨(gm 1574 (by decide +kernel) rfl), List.forall_mem_cons.mpr ⟨(gm 1576 (by decide +kernel) rfl), List.forall_mem_cons.mpr ⟨(gm 61 (by decide +kernel) rfl), List.forall_mem_cons.mpr ⟨(gm 122 (by decide +kernel) rfl), fun _ h => absurd h List.not_mem_nil⟩⟩⟩⟩⟩, by decide +kernel, by decide +kernel, by decide +kernel⟩
theorem okX11_readWheel_314 : gOkV mX11_readWheel mX11_addPart 314 2 := ⟨List.forall_mem_cons.mpr ⟨(gm 1605 (by decide +kernel) rfl), List.forall_mem_cons.mpr ⟨(gm 1602 (by decide +kernel) rfl), List.forall_mem_cons.mpr ⟨(gm 1604 (by decide +kernel) rfl), List.forall_mem_cons.mpr ⟨(gm 68 (by decide +kernel) rfl), List.forall_mem_cons.mpr ⟨(gm 122 (by decide +kernel) rfl), fun _ h => absurd h List.not_mem_nil⟩⟩⟩⟩⟩, by decide +kernel, by decide +kernel, by decide +kernel⟩
theorem okX11_readWheel_292 : gOkV mX11_readWheel mX11_next 292 0 := ⟨List.forall_mem_cons.mpr ⟨(gm 1550 (by decide +kernel) rfl), List.forall_mem_cons.mpr ⟨(gm 1547 (by decide +kernel) rfl), List.forall_mem_cons.mpr ⟨(gm 1549 (by decide +kernel) rfl), List.forall_mem_cons.mpr ⟨(gm 57 (by decide +kernel) rfl), List.forall_mem_cons.mpr ⟨(gm 122 (by decide +kernel) rfl), fun _ h => absurd h List.not_mem_nil⟩⟩⟩⟩⟩, by decide +kernel, by decide +kernel, by decide +kernel⟩
theorem okX11_readWheel_310 : gOkV mX11_readWheel mX11_newName 310 1 := ⟨List.forall_mem_cons.mpr ⟨(gm 1593 (by decide +kernel) rfl), List.forall_mem_cons.mpr ⟨(gm 1590 (by decide +kernel) rfl), List.forall_mem_cons.mpr ⟨(gm 1592 (by decide +kernel) rfl), List.forall_mem_cons.mpr ⟨(gm 65 (by decide +kernel) rfl), List.forall_mem_cons.mpr ⟨(gm 122 (by decide +kernel) rfl), fun _ h => absurd h List.not_mem_nil⟩⟩⟩⟩⟩, by decide +kernel, by decide +kernel, by decide +kernel⟩
theorem okX11_readWheel_338 : gOkV mX11_readWheel mX11_wantWord 338 1 := ⟨List.forall_mem_cons.mpr ⟨(gm 1637 (by decide +kernel) rfl), List.forall_mem_cons.mpr ⟨(gm 1634 (by decide +kernel) rfl), List.forall_mem_cons.mpr ⟨(gm 1636 (by decide +kernel) rfl), List.forall_mem_cons.mpr ⟨(gm 76 (by decide +kernel) rfl), List.forall_mem_cons.mpr ⟨(gm 122 (by decide +kernel) rfl), fun _ h => absurd h List.not_mem_nil⟩⟩⟩⟩⟩, by decide +kernel, by decide +kernel, by decide +kernel⟩
theorem okX11_readWheel_332 : gOkV mX11_readWheel mX11_oldJoint 332 0 := ⟨List.forall_mem_cons.mpr ⟨(gm 1621 (by decide +kernel) rfl), List.forall_mem_cons.mpr ⟨(gm 1618 (by decide +kernel) rfl), List.forall_mem_cons.mpr ⟨(gm 1620 (by decide +kernel) rfl), List.forall_mem_cons.mpr ⟨(gm 72 (by decide +kernel) rfl), List.forall_mem_cons.mpr ⟨(gm 122 (by decide +kernel) rfl), fun _ h => absurd h List.not_mem_nil⟩⟩⟩⟩⟩, by decide +kernel, by decide +kernel, by decide +kernel⟩
def fX11_readWheel_137 (σ : gS) : Option (Unit × gS) :=
  bd (fX11_stop σ) fun _ σ1 =>
  some ((), σ1)
set_option maxHeartbeats 4000000 in
set_option maxRecDepth 100000 in
theorem pX11_readWheel_137 {E : gE} {r : Unit} {σ' : gS} {σ : gS} (h : fX11_readWheel_137 σ = some (r, σ')) : gG E mX11_readWheel 137 [(0, .ref 168)] [] σ (none) σ' := by
  unfold fX11_readWheel_137 at h
  refine g_aload_n dX11_readWheel_137 rfl 0 rfl ?_
  obtain ⟨_, σ1, y2, h⟩ := bd_some h
  refine g_callVv (as := []) (st := []) (zX11_stop y2) dX11_readWheel_138 gi_168 rfl okX11_readWheel_322 (Nat.le_of_ble_eq_true rfl) ?_
  obtain ⟨rfl, rfl⟩ := so_inj h
  exact g_vret dX11_readWheel_141 rfl
def fX11_readWheel_68 (v1 : Int64) (v3 : Int32) (σ : gS) : Option (Unit × gS) :=
  bd (fX11_bounded 3 200 σ) fun x1 σ2 =>
  bd (fX11_good σ2) fun x4 σ5 =>
  if x4 = 0 then
    fX11_readWheel_137 σ5
  else
    gg (¬ (σ5.1 168 26 < 0 ∨ 16 ≤ (σ5.1 168 26).toNatClampNeg)) (
    bnd (gsJ σ5 187 ((σ5.1 168 26).toNatClampNeg) v1) fun σ9 =>
    gg (¬ (σ9.1 168 26 < 0 ∨ 16 ≤ (σ9.1 168 26).toNatClampNeg)) (
    bnd (gsI σ9 188 ((σ9.1 168 26).toNatClampNeg) v3) fun σ11 =>
    gg (¬ (σ11.1 168 26 < 0 ∨ 16 ≤ (σ11.1 168 26).toNatClampNeg)) (
    bnd (gsI σ11 189 ((σ11.1 168 26).toNatClampNeg) x1) fun σ13 =>
    bnd (gsI σ13 168 26 ((σ13.1 168 26) + 1)) fun σ14 =>
    bd (fX11_addPart 3 ((σ14.1 168 26) - 1) σ14) fun _ σ15 =>
    fX11_readWheel_137 σ15)))
set_option maxHeartbeats 4000000 in
set_option maxRecDepth 100000 in
theorem pX11_readWheel_68 {E : gE} {r : Unit} {σ' : gS} {v1 : Int64} {v3 : Int32} {σ : gS} (h : fX11_readWheel_68 v1 v3 σ = some (r, σ')) : gG E mX11_readWheel 68 [(0, .ref 168), (1, .long v1), (3, .int v3)] [] σ (none) σ' := by
  unfold fX11_readWheel_68 at h
  refine g_aload_n dX11_readWheel_68 rfl 0 rfl ?_
  refine g_iconst (v := 3) dX11_readWheel_69 (by decide) ?_
  refine g_sipush (v := 200) dX11_readWheel_70 (by decide) ?_
  obtain ⟨x1, σ2, y3, h⟩ := bd_some h
  refine g_callVr (as := [.int 3, .int 200]) (st := []) (zX11_bounded y3) dX11_readWheel_73 gi_168 rfl okX11_readWheel_318 (Nat.le_of_ble_eq_true rfl) ?_
  refine g_istore (lv' := [(4, .int x1), (0, .ref 168), (1, .long v1), (3, .int v3)]) dX11_readWheel_76 (Nat.le_of_ble_eq_true rfl) rfl ?_
  refine g_aload_n dX11_readWheel_78 rfl 1 rfl ?_
  obtain ⟨x4, σ5, y6, h⟩ := bd_some h
  refine g_callVr (as := []) (st := []) (zX11_good y6) dX11_readWheel_79 gi_168 rfl okX11_readWheel_282 (Nat.le_of_ble_eq_true rfl) ?_
  refine g_if_eq (t := 137) dX11_readWheel_82 (by decide) (fun c7 => ?_) (fun c7 => ?_)
  · replace h := if_t h c7
    refine g_sub [1] rfl ?_
    exact pX11_readWheel_137 h
  · replace h := if_f h c7
    refine g_aload_n dX11_readWheel_85 rfl 1 rfl ?_
    refine g_getC (n := 187) dX11_readWheel_86 gi_168 rfl fl_RX11_73 ?_
    refine g_aload_n dX11_readWheel_89 rfl 1 rfl ?_
    refine g_getI dX11_readWheel_90 gi_168 rfl fl_RX11_298 ?_
    refine g_lload_n dX11_readWheel_93 rfl 2 rfl ?_
    obtain ⟨g8, h⟩ := gg_some h
    obtain ⟨σ9, eσ9, h⟩ := bnd_nm h
    refine g_last dX11_readWheel_94 gi_187 g8 (g_st eσ9 ?_)
    refine g_aload_n dX11_readWheel_95 rfl 1 rfl ?_
    refine g_getC (n := 188) dX11_readWheel_96 gi_168 rfl fl_RX11_76 ?_
    refine g_aload_n dX11_readWheel_99 rfl 1 rfl ?_
    refine g_getI dX11_readWheel_100 gi_168 rfl fl_RX11_298 ?_
    refine g_iload_n dX11_readWheel_103 rfl 3 rfl ?_
    obtain ⟨g10, h⟩ := gg_some h
    obtain ⟨σ11, eσ11, h⟩ := bnd_nm h
    refine g_iast dX11_readWheel_104 gi_188 g10 (g_st eσ11 ?_)
    refine g_aload_n dX11_readWheel_105 rfl 1 rfl ?_
    refine g_getC (n := 189) dX11_readWheel_106 gi_168 rfl fl_RX11_79 ?_
    refine g_aload_n dX11_readWheel_109 rfl 1 rfl ?_
    refine g_getI dX11_readWheel_110 gi_168 rfl fl_RX11_298 ?_
    refine g_iload dX11_readWheel_113 0 rfl ?_
    obtain ⟨g12, h⟩ := gg_some h
    obtain ⟨σ13, eσ13, h⟩ := bnd_nm h
    refine g_iast dX11_readWheel_115 gi_189 g12 (g_st eσ13 ?_)
    refine g_aload_n dX11_readWheel_116 rfl 1 rfl ?_
    refine g_dup dX11_readWheel_117 rfl ?_
    refine g_getI dX11_readWheel_118 gi_168 rfl fl_RX11_298 ?_
    refine g_iconst (v := 1) dX11_readWheel_121 (by decide) ?_
    refine g_iadd dX11_readWheel_122 ?_
    obtain ⟨σ14, eσ14, h⟩ := bnd_nm h
    refine g_putI dX11_readWheel_123 gi_168 rfl fp_RX11_298 (g_st eσ14 ?_)
    refine g_aload_n dX11_readWheel_126 rfl 1 rfl ?_
    refine g_iconst (v := 3) dX11_readWheel_127 (by decide) ?_
    refine g_aload_n dX11_readWheel_128 rfl 1 rfl ?_
    refine g_getI dX11_readWheel_129 gi_168 rfl fl_RX11_298 ?_
    refine g_iconst (v := 1) dX11_readWheel_132 (by decide) ?_
    refine g_isub dX11_readWheel_133 ?_
    obtain ⟨_, σ15, y16, h⟩ := bd_some h
    refine g_callVv (as := [.int 3, .int ((σ14.1 168 26) - 1)]) (st := []) (zX11_addPart y16) dX11_readWheel_134 gi_168 rfl okX11_readWheel_314 (Nat.le_of_ble_eq_true rfl) ?_
    refine g_sub [1] rfl ?_
    exact pX11_readWheel_137 h
def fX11_readWheel_56 (v1 : Int64) (s0 : Int32) (σ : gS) : Option (Unit × gS) :=
  bd (fX11_good σ) fun x1 σ2 =>
  if x1 = 0 then
    fX11_readWheel_68 v1 s0 σ2
  else
    bd (fX11_next σ2) fun _ σ5 =>
    fX11_readWheel_68 v1 s0 σ5
set_option maxHeartbeats 4000000 in
set_option maxRecDepth 100000 in
theorem pX11_readWheel_56 {E : gE} {r : Unit} {σ' : gS} {v1 : Int64} {s0 : Int32} {σ : gS} (h : fX11_readWheel_56 v1 s0 σ = some (r, σ')) : gG E mX11_readWheel 56 [(0, .ref 168), (1, .long v1)] [.int s0] σ (none) σ' := by
  unfold fX11_readWheel_56 at h
  refine g_istore_n (lv' := [(3, .int s0), (0, .ref 168), (1, .long v1)]) dX11_readWheel_56 rfl (Nat.le_of_ble_eq_true rfl) rfl ?_
  refine g_aload_n dX11_readWheel_57 rfl 1 rfl ?_
  obtain ⟨x1, σ2, y3, h⟩ := bd_some h
  refine g_callVr (as := []) (st := []) (zX11_good y3) dX11_readWheel_58 gi_168 rfl okX11_readWheel_282 (Nat.le_of_ble_eq_true rfl) ?_
  refine g_if_eq (t := 68) dX11_readWheel_61 (by decide) (fun c4 => ?_) (fun c4 => ?_)
  · replace h := if_t h c4
    refine g_sub [1, 2, 0] rfl ?_
    exact pX11_readWheel_68 h
  · replace h := if_f h c4
    refine g_aload_n dX11_readWheel_64 rfl 1 rfl ?_
    obtain ⟨_, σ5, y6, h⟩ := bd_some h
    refine g_callVv (as := []) (st := []) (zX11_next y6) dX11_readWheel_65 gi_168 rfl okX11_readWheel_292 (Nat.le_of_ble_eq_true rfl) ?_
    refine g_sub [1, 2, 0] rfl ?_
    exact pX11_readWheel_68 h
def fX11_readWheel_15 (s1 : Int32) (σ : gS) : Option (Unit × gS) :=
  bd (fX11_newName s1 σ) fun _ σ1 =>
  bd (fX11_good σ1) fun x3 σ4 =>
  if x3 = 0 then
    some ((), σ4)
  else
    bd (fX11_next σ4) fun _ σ7 =>
    bd (fX11_wantWord 11 σ7) fun _ σ9 =>
    bd (fX11_good σ9) fun x11 σ12 =>
    if x11 = 0 then
      fX11_readWheel_56 (σ4.2.1 168 47) (-1) σ12
    else
      bd (fX11_oldJoint σ12) fun x15 σ16 =>
      fX11_readWheel_56 (σ4.2.1 168 47) x15 σ16
set_option maxHeartbeats 4000000 in
set_option maxRecDepth 100000 in
theorem pX11_readWheel_15 {E : gE} {r : Unit} {σ' : gS} {s1 : Int32} {σ : gS} (h : fX11_readWheel_15 s1 σ = some (r, σ')) : gG E mX11_readWheel 15 [(0, .ref 168)] [.int s1, .ref 168] σ (none) σ' := by
  unfold fX11_readWheel_15 at h
  obtain ⟨_, σ1, y2, h⟩ := bd_some h
  refine g_callVv (as := [.int s1]) (st := []) (zX11_newName y2) dX11_readWheel_15 gi_168 rfl okX11_readWheel_310 (Nat.le_of_ble_eq_true rfl) ?_
  refine g_aload_n dX11_readWheel_18 rfl 0 rfl ?_
  obtain ⟨x3, σ4, y5, h⟩ := bd_some h
  refine g_callVr (as := []) (st := []) (zX11_good y5) dX11_readWheel_19 gi_168 rfl okX11_readWheel_282 (Nat.le_of_ble_eq_true rfl) ?_
  refine g_if_ne (t := 26) dX11_readWheel_22 (by decide) (fun c6 => ?_) (fun c6 => ?_)
  · replace h := if_f h c6
    refine g_aload_n dX11_readWheel_26 rfl 0 rfl ?_
    refine g_getJ dX11_readWheel_27 gi_168 rfl fl_RX11_260 ?_
    refine g_lstore_n (lv' := [(1, .long (σ4.2.1 168 47)), (0, .ref 168)]) dX11_readWheel_30 rfl (Nat.le_of_ble_eq_true rfl) rfl ?_
    refine g_aload_n dX11_readWheel_31 rfl 1 rfl ?_
    obtain ⟨_, σ7, y8, h⟩ := bd_some h
    refine g_callVv (as := []) (st := []) (zX11_next y8) dX11_readWheel_32 gi_168 rfl okX11_readWheel_292 (Nat.le_of_ble_eq_true rfl) ?_
    refine g_aload_n dX11_readWheel_35 rfl 1 rfl ?_
    refine g_bipush (v := 11) dX11_readWheel_36 (by decide) ?_
    obtain ⟨_, σ9, y10, h⟩ := bd_some h
    refine g_callVv (as := [.int 11]) (st := []) (zX11_wantWord y10) dX11_readWheel_38 gi_168 rfl okX11_readWheel_338 (Nat.le_of_ble_eq_true rfl) ?_
    refine g_aload_n dX11_readWheel_41 rfl 1 rfl ?_
    obtain ⟨x11, σ12, y13, h⟩ := bd_some h
    refine g_callVr (as := []) (st := []) (zX11_good y13) dX11_readWheel_42 gi_168 rfl okX11_readWheel_282 (Nat.le_of_ble_eq_true rfl) ?_
    refine g_if_eq (t := 55) dX11_readWheel_45 (by decide) (fun c14 => ?_) (fun c14 => ?_)
    · replace h := if_t h c14
      refine g_iconst (v := (-1)) dX11_readWheel_55 (by decide) ?_
      refine g_sub [1, 0] rfl ?_
      exact pX11_readWheel_56 h
    · replace h := if_f h c14
      refine g_aload_n dX11_readWheel_48 rfl 1 rfl ?_
      obtain ⟨x15, σ16, y17, h⟩ := bd_some h
      refine g_callVr (as := []) (st := []) (zX11_oldJoint y17) dX11_readWheel_49 gi_168 rfl okX11_readWheel_332 (Nat.le_of_ble_eq_true rfl) ?_
      refine g_goto (t := 56) dX11_readWheel_52 (by decide) ?_
      refine g_sub [1, 0] rfl ?_
      exact pX11_readWheel_56 h
  · replace h := if_t h c6
    obtain ⟨rfl, rfl⟩ := so_inj h
    exact g_vret dX11_readWheel_25 rfl
def fX11_readWheel (σ : gS) : Option (Unit × gS) :=
  if (σ.1 168 26) = 16 then
    fX11_readWheel_15 1 σ
  else
    fX11_readWheel_15 0 σ
set_option maxHeartbeats 4000000 in
set_option maxRecDepth 100000 in
theorem pX11_readWheel {E : gE} {r : Unit} {σ' : gS} {σ : gS} (h : fX11_readWheel σ = some (r, σ')) : gG E mX11_readWheel 0 [(0, .ref 168)] [] σ (none) σ' := by
  unfold fX11_readWheel at h
  refine g_aload_n dX11_readWheel_0 rfl 0 rfl ?_
  refine g_aload_n dX11_readWheel_1 rfl 0 rfl ?_
  refine g_getI dX11_readWheel_2 gi_168 rfl fl_RX11_298 ?_
  refine g_bipush (v := 16) dX11_readWheel_5 (by decide) ?_
  refine g_icmp_ne (t := 14) dX11_readWheel_7 (by decide) (fun c1 => ?_) (fun c1 => ?_)
  · replace h := if_f h c1
    refine g_iconst (v := 0) dX11_readWheel_14 (by decide) ?_
    exact pX11_readWheel_15 h
  · replace h := if_t h c1
    refine g_iconst (v := 1) dX11_readWheel_10 (by decide) ?_
    refine g_goto (t := 15) dX11_readWheel_11 (by decide) ?_
    exact pX11_readWheel_15 h
theorem zX11_readWheel {E : gE} {r : Unit} {σ σ' : gS} (h : fX11_readWheel σ = some (r, σ')) : gC E mX11_readWheel [.ref 168] σ (none) σ' :=
  gC_of (by decide +kernel) rfl (Nat.le_of_ble_eq_true rfl) (pX11_readWheel h)
theorem fl_RX11_88 : gFl RX11 88 11 34 := ⟨RX11, TX11, 101, rfl, by decide, ux_11, Or.inl (gm 1262 (by decide +kernel) rfl)⟩
theorem fl_RX11_344 : gFl RX11 344 11 33 := ⟨RX11, TX11, 101, rfl, by decide, ux_11, Or.inl (gm 1261 (by decide +kernel) rfl)⟩
theorem fl_RX11_91 : gFl RX11 91 11 35 := ⟨RX11, TX11, 101, rfl, by decide, ux_11, Or.inl (gm 1263 (by decide +kernel) rfl)⟩
theorem fl_RX11_94 : gFl RX11 94 11 36 := ⟨RX11, TX11, 101, rfl, by decide, ux_11, Or.inl (gm 1264 (by decide +kernel) rfl)⟩
theorem fp_RX11_344 : gFp RX11 344 11 33 .int := ⟨RX11, TX11, 101, rfl, by decide, ux_11, Or.inl (gm 1261 (by decide +kernel) rfl), rfl, by decide +kernel, ⟨tyX11, tyX11_ok⟩, nmX11⟩
def mX11_readCoupling : gM := (yX11_readCoupling, cX11_readCoupling, RX11, 4, none, 4, 92)
theorem dX11_readCoupling_0 : decode mX11_readCoupling.2.1 0 = .ok (.aload_n 0, 1) := by decide +kernel
theorem dX11_readCoupling_1 : decode mX11_readCoupling.2.1 1 = .ok (.invokevirtual 341, 3) := by decide +kernel
theorem dX11_readCoupling_4 : decode mX11_readCoupling.2.1 4 = .ok (.istore_n 2, 1) := by decide +kernel
theorem dX11_readCoupling_5 : decode mX11_readCoupling.2.1 5 = .ok (.aload_n 0, 1) := by decide +kernel
theorem dX11_readCoupling_6 : decode mX11_readCoupling.2.1 6 = .ok (.invokevirtual 282, 3) := by decide +kernel
theorem dX11_readCoupling_9 : decode mX11_readCoupling.2.1 9 = .ok (.ifCond .eq 7, 3) := by decide +kernel
theorem dX11_readCoupling_12 : decode mX11_readCoupling.2.1 12 = .ok (.aload_n 0, 1) := by decide +kernel
theorem dX11_readCoupling_13 : decode mX11_readCoupling.2.1 13 = .ok (.invokevirtual 292, 3) := by decide +kernel
theorem dX11_readCoupling_16 : decode mX11_readCoupling.2.1 16 = .ok (.aload_n 0, 1) := by decide +kernel
theorem dX11_readCoupling_17 : decode mX11_readCoupling.2.1 17 = .ok (.invokevirtual 282, 3) := by decide +kernel
theorem dX11_readCoupling_20 : decode mX11_readCoupling.2.1 20 = .ok (.ifCond .eq 10, 3) := by decide +kernel
theorem dX11_readCoupling_23 : decode mX11_readCoupling.2.1 23 = .ok (.aload_n 0, 1) := by decide +kernel
theorem dX11_readCoupling_24 : decode mX11_readCoupling.2.1 24 = .ok (.invokevirtual 341, 3) := by decide +kernel
theorem dX11_readCoupling_27 : decode mX11_readCoupling.2.1 27 = .ok (.goto 4, 3) := by decide +kernel
theorem dX11_readCoupling_30 : decode mX11_readCoupling.2.1 30 = .ok (.iconst (-1), 1) := by decide +kernel
theorem dX11_readCoupling_31 : decode mX11_readCoupling.2.1 31 = .ok (.istore_n 3, 1) := by decide +kernel
theorem dX11_readCoupling_32 : decode mX11_readCoupling.2.1 32 = .ok (.aload_n 0, 1) := by decide +kernel
theorem dX11_readCoupling_33 : decode mX11_readCoupling.2.1 33 = .ok (.invokevirtual 282, 3) := by decide +kernel
theorem dX11_readCoupling_36 : decode mX11_readCoupling.2.1 36 = .ok (.ifCond .eq 18, 3) := by decide +kernel
theorem dX11_readCoupling_39 : decode mX11_readCoupling.2.1 39 = .ok (.aload_n 0, 1) := by decide +kernel
theorem dX11_readCoupling_40 : decode mX11_readCoupling.2.1 40 = .ok (.getfield 344, 3) := by decide +kernel
theorem dX11_readCoupling_43 : decode mX11_readCoupling.2.1 43 = .ok (.bipush 30, 2) := by decide +kernel
theorem dX11_readCoupling_45 : decode mX11_readCoupling.2.1 45 = .ok (.if_icmp .ne 9, 3) := by decide +kernel
theorem dX11_readCoupling_48 : decode mX11_readCoupling.2.1 48 = .ok (.aload_n 0, 1) := by decide +kernel
theorem dX11_readCoupling_49 : decode mX11_readCoupling.2.1 49 = .ok (.bipush 6, 2) := by decide +kernel
theorem dX11_readCoupling_51 : decode mX11_readCoupling.2.1 51 = .ok (.invokevirtual 285, 3) := by decide +kernel
theorem dX11_readCoupling_54 : decode mX11_readCoupling.2.1 54 = .ok (.aload_n 0, 1) := by decide +kernel
theorem dX11_readCoupling_55 : decode mX11_readCoupling.2.1 55 = .ok (.invokevirtual 282, 3) := by decide +kernel
theorem dX11_readCoupling_58 : decode mX11_readCoupling.2.1 58 = .ok (.ifCond .eq 34, 3) := by decide +kernel
theorem dX11_readCoupling_61 : decode mX11_readCoupling.2.1 61 = .ok (.iload_n 2, 1) := by decide +kernel
theorem dX11_readCoupling_62 : decode mX11_readCoupling.2.1 62 = .ok (.iload_n 3, 1) := by decide +kernel
theorem dX11_readCoupling_63 : decode mX11_readCoupling.2.1 63 = .ok (.if_icmp .eq 23, 3) := by decide +kernel
theorem dX11_readCoupling_66 : decode mX11_readCoupling.2.1 66 = .ok (.iload_n 1, 1) := by decide +kernel
theorem dX11_readCoupling_67 : decode mX11_readCoupling.2.1 67 = .ok (.iconst 4, 1) := by decide +kernel
theorem dX11_readCoupling_68 : decode mX11_readCoupling.2.1 68 = .ok (.if_icmp .ne 24, 3) := by decide +kernel
theorem dX11_readCoupling_71 : decode mX11_readCoupling.2.1 71 = .ok (.aload_n 0, 1) := by decide +kernel
theorem dX11_readCoupling_72 : decode mX11_readCoupling.2.1 72 = .ok (.getfield 76, 3) := by decide +kernel
theorem dX11_readCoupling_75 : decode mX11_readCoupling.2.1 75 = .ok (.iload_n 2, 1) := by decide +kernel
theorem dX11_readCoupling_76 : decode mX11_readCoupling.2.1 76 = .ok (.iaload, 1) := by decide +kernel
theorem dX11_readCoupling_77 : decode mX11_readCoupling.2.1 77 = .ok (.aload_n 0, 1) := by decide +kernel
theorem dX11_readCoupling_78 : decode mX11_readCoupling.2.1 78 = .ok (.getfield 76, 3) := by decide +kernel
theorem dX11_readCoupling_81 : decode mX11_readCoupling.2.1 81 = .ok (.iload_n 3, 1) := by decide +kernel
theorem dX11_readCoupling_82 : decode mX11_readCoupling.2.1 82 = .ok (.iaload, 1) := by decide +kernel
theorem dX11_readCoupling_83 : decode mX11_readCoupling.2.1 83 = .ok (.if_icmp .ne 9, 3) := by decide +kernel
theorem dX11_readCoupling_86 : decode mX11_readCoupling.2.1 86 = .ok (.aload_n 0, 1) := by decide +kernel
theorem dX11_readCoupling_87 : decode mX11_readCoupling.2.1 87 = .ok (.bipush 7, 2) := by decide +kernel
theorem dX11_readCoupling_89 : decode mX11_readCoupling.2.1 89 = .ok (.invokevirtual 285, 3) := by decide +kernel
theorem dX11_readCoupling_92 : decode mX11_readCoupling.2.1 92 = .ok (.aload_n 0, 1) := by decide +kernel
theorem dX11_readCoupling_93 : decode mX11_readCoupling.2.1 93 = .ok (.invokevirtual 282, 3) := by decide +kernel
theorem dX11_readCoupling_96 : decode mX11_readCoupling.2.1 96 = .ok (.ifCond .eq 58, 3) := by decide +kernel
theorem dX11_readCoupling_99 : decode mX11_readCoupling.2.1 99 = .ok (.aload_n 0, 1) := by decide +kernel
theorem dX11_readCoupling_100 : decode mX11_readCoupling.2.1 100 = .ok (.getfield 88, 3) := by decide +kernel
theorem dX11_readCoupling_103 : decode mX11_readCoupling.2.1 103 = .ok (.aload_n 0, 1) := by decide +kernel
theorem dX11_readCoupling_104 : decode mX11_readCoupling.2.1 104 = .ok (.getfield 344, 3) := by decide +kernel
theorem dX11_readCoupling_107 : decode mX11_readCoupling.2.1 107 = .ok (.iload_n 1, 1) := by decide +kernel
theorem dX11_readCoupling_108 : decode mX11_readCoupling.2.1 108 = .ok (.iastore, 1) := by decide +kernel
theorem dX11_readCoupling_109 : decode mX11_readCoupling.2.1 109 = .ok (.aload_n 0, 1) := by decide +kernel
theorem dX11_readCoupling_110 : decode mX11_readCoupling.2.1 110 = .ok (.getfield 91, 3) := by decide +kernel
theorem dX11_readCoupling_113 : decode mX11_readCoupling.2.1 113 = .ok (.aload_n 0, 1) := by decide +kernel
theorem dX11_readCoupling_114 : decode mX11_readCoupling.2.1 114 = .ok (.getfield 344, 3) := by decide +kernel
theorem dX11_readCoupling_117 : decode mX11_readCoupling.2.1 117 = .ok (.iload_n 2, 1) := by decide +kernel
theorem dX11_readCoupling_118 : decode mX11_readCoupling.2.1 118 = .ok (.iastore, 1) := by decide +kernel
theorem dX11_readCoupling_119 : decode mX11_readCoupling.2.1 119 = .ok (.aload_n 0, 1) := by decide +kernel
theorem dX11_readCoupling_120 : decode mX11_readCoupling.2.1 120 = .ok (.getfield 94, 3) := by decide +kernel
theorem dX11_readCoupling_123 : decode mX11_readCoupling.2.1 123 = .ok (.aload_n 0, 1) := by decide +kernel
theorem dX11_readCoupling_124 : decode mX11_readCoupling.2.1 124 = .ok (.getfield 344, 3) := by decide +kernel
theorem dX11_readCoupling_127 : decode mX11_readCoupling.2.1 127 = .ok (.iload_n 3, 1) := by decide +kernel
theorem dX11_readCoupling_128 : decode mX11_readCoupling.2.1 128 = .ok (.iastore, 1) := by decide +kernel
theorem dX11_readCoupling_129 : decode mX11_readCoupling.2.1 129 = .ok (.aload_n 0, 1) := by decide +kernel
theorem dX11_readCoupling_130 : decode mX11_readCoupling.2.1 130 = .ok (.dup, 1) := by decide +kernel
theorem dX11_readCoupling_131 : decode mX11_readCoupling.2.1 131 = .ok (.getfield 344, 3) := by decide +kernel
theorem dX11_readCoupling_134 : decode mX11_readCoupling.2.1 134 = .ok (.iconst 1, 1) := by decide +kernel
theorem dX11_readCoupling_135 : decode mX11_readCoupling.2.1 135 = .ok (.iadd, 1) := by decide +kernel
theorem dX11_readCoupling_136 : decode mX11_readCoupling.2.1 136 = .ok (.putfield 344, 3) := by decide +kernel
theorem dX11_readCoupling_139 : decode mX11_readCoupling.2.1 139 = .ok (.aload_n 0, 1) := by decide +kernel
theorem dX11_readCoupling_140 : decode mX11_readCoupling.2.1 140 = .ok (.iload_n 1, 1) := by decide +kernel
theorem dX11_readCoupling_141 : decode mX11_readCoupling.2.1 141 = .ok (.aload_n 0, 1) := by decide +kernel
theorem dX11_readCoupling_142 : decode mX11_readCoupling.2.1 142 = .ok (.getfield 344, 3) := by decide +kernel
theorem dX11_readCoupling_145 : decode mX11_readCoupling.2.1 145 = .ok (.iconst 1, 1) := by decide +kernel
theorem dX11_readCoupling_146 : decode mX11_readCoupling.2.1 146 = .ok (.isub, 1) := by decide +kernel
theorem dX11_readCoupling_147 : decode mX11_readCoupling.2.1 147 = .ok (.invokevirtual 314, 3) := by decide +kernel
theorem dX11_readCoupling_150 : decode mX11_readCoupling.2.1 150 = .ok (.aload_n 0, 1) := by decide +kernel
theorem dX11_readCoupling_151 : decode mX11_readCoupling.2.1 151 = .ok (.invokevirtual 292, 3) := by decide +kernel
theorem dX11_readCoupling_154 : decode mX11_readCoupling.2.1 154 = .ok (.aload_n 0, 1) := by decide +kernel
theorem dX11_readCoupling_155 : decode mX11_readCoupling.2.1 155 = .ok (.invokevirtual 322, 3) := by decide +kernel
theorem dX11_readCoupling_158 : decode mX11_readCoupling.2.1 158 = .ok (.return_, 1) := by decide +kernel
theorem okX11_readCoupling_322 : gOkV mX11_readCoupling mX11_stop 322 0 := ⟨List.forall_mem_cons.mpr ⟨(gm 1613 (by decide +kernel) rfl), List.forall_mem_cons.mpr ⟨(gm 1610 (by decide +kernel) rfl), List.forall_mem_cons.mpr ⟨(gm 1612 (by decide +kernel) rfl), List.forall_mem_cons.mpr ⟨(gm 70 (by decide +kernel) rfl), List.forall_mem_cons.mpr ⟨(gm 122 (by decide +kernel) rfl), fun _ h => absurd h List.not_mem_nil⟩⟩⟩⟩⟩, by decide +kernel, by decide +kernel, by decide +kernel⟩
theorem okX11_readCoupling_282 : gOkV mX11_readCoupling mX11_good 282 0 := ⟨List.forall_mem_cons.mpr ⟨(gm 1577 (by decide +kernel) rfl), List.forall_mem_cons.mpr ⟨(gm 1574 (by decide +kernel) rfl), List.forall_mem_cons.mpr ⟨(gm 1576 (by decide +kernel) rfl), List.forall_mem_cons.mpr ⟨(gm 61 (by decide +kernel) rfl), List.forall_mem_cons.mpr ⟨(gm 122 (by decide +kernel) rfl), fun _ h => absurd h List.not_mem_nil⟩⟩⟩⟩⟩, by decide +kernel, by decide +kernel, by decide +kernel⟩
theorem okX11_readCoupling_314 : gOkV mX11_readCoupling mX11_addPart 314 2 := ⟨List.forall_mem_cons.mpr ⟨(gm 1605 (by decide +kernel) rfl), List.forall_mem_cons.mpr ⟨(gm 1602 (by decide +kernel) rfl), List.forall_mem_cons.mpr ⟨(gm 1604 (by decide +kernel) rfl), List.forall_mem_cons.mpr ⟨(gm 68 (by decide +kernel) rfl), List.forall_mem_cons.mpr ⟨(gm 122 (by decide +kernel) rfl), fun _ h => absurd h List.not_mem_nil⟩⟩⟩⟩⟩, by decide +kernel, by decide +kernel, by decide +kernel⟩
theorem okX11_readCoupling_292 : gOkV mX11_readCoupling mX11_next 292 0 := ⟨List.forall_mem_cons.mpr ⟨(gm 1550 (by decide +kernel) rfl), List.forall_mem_cons.mpr ⟨(gm 1547 (by decide +kernel) rfl), List.forall_mem_cons.mpr ⟨(gm 1549 (by decide +kernel) rfl), List.forall_mem_cons.mpr ⟨(gm 57 (by decide +kernel) rfl), List.forall_mem_cons.mpr ⟨(gm 122 (by decide +kernel) rfl), fun _ h => absurd h List.not_mem_nil⟩⟩⟩⟩⟩, by decide +kernel, by decide +kernel, by decide +kernel⟩
theorem okX11_readCoupling_285 : gOkV mX11_readCoupling mX11_bad 285 1 := ⟨List.forall_mem_cons.mpr ⟨(gm 1585 (by decide +kernel) rfl), List.forall_mem_cons.mpr ⟨(gm 1582 (by decide +kernel) rfl), List.forall_mem_cons.mpr ⟨(gm 1584 (by decide +kernel) rfl), List.forall_mem_cons.mpr ⟨(gm 63 (by decide +kernel) rfl), List.forall_mem_cons.mpr ⟨(gm 122 (by decide +kernel) rfl), fun _ h => absurd h List.not_mem_nil⟩⟩⟩⟩⟩, by decide +kernel, by decide +kernel, by decide +kernel⟩
theorem okX11_readCoupling_341 : gOkV mX11_readCoupling mX11_oldWheel 341 0 := ⟨List.forall_mem_cons.mpr ⟨(gm 1645 (by decide +kernel) rfl), List.forall_mem_cons.mpr ⟨(gm 1642 (by decide +kernel) rfl), List.forall_mem_cons.mpr ⟨(gm 1644 (by decide +kernel) rfl), List.forall_mem_cons.mpr ⟨(gm 78 (by decide +kernel) rfl), List.forall_mem_cons.mpr ⟨(gm 122 (by decide +kernel) rfl), fun _ h => absurd h List.not_mem_nil⟩⟩⟩⟩⟩, by decide +kernel, by decide +kernel, by decide +kernel⟩
def fX11_readCoupling_154 (p1 : Int32) (σ : gS) : Option (Unit × gS) :=
  bd (fX11_stop σ) fun _ σ1 =>
  some ((), σ1)
set_option maxHeartbeats 4000000 in
set_option maxRecDepth 100000 in
theorem pX11_readCoupling_154 {E : gE} {p1 : Int32} {r : Unit} {σ' : gS} {σ : gS} (h : fX11_readCoupling_154 p1 σ = some (r, σ')) : gG E mX11_readCoupling 154 [(0, .ref 168)] [] σ (none) σ' := by
  unfold fX11_readCoupling_154 at h
  refine g_aload_n dX11_readCoupling_154 rfl 0 rfl ?_
  obtain ⟨_, σ1, y2, h⟩ := bd_some h
  refine g_callVv (as := []) (st := []) (zX11_stop y2) dX11_readCoupling_155 gi_168 rfl okX11_readCoupling_322 (Nat.le_of_ble_eq_true rfl) ?_
  obtain ⟨rfl, rfl⟩ := so_inj h
  exact g_vret dX11_readCoupling_158 rfl
def fX11_readCoupling_92 (p1 : Int32) (v2 : Int32) (v3 : Int32) (σ : gS) : Option (Unit × gS) :=
  bd (fX11_good σ) fun x1 σ2 =>
  if x1 = 0 then
    fX11_readCoupling_154 p1 σ2
  else
    gg (¬ (σ2.1 168 33 < 0 ∨ 30 ≤ (σ2.1 168 33).toNatClampNeg)) (
    bnd (gsI σ2 192 ((σ2.1 168 33).toNatClampNeg) p1) fun σ6 =>
    gg (¬ (σ6.1 168 33 < 0 ∨ 30 ≤ (σ6.1 168 33).toNatClampNeg)) (
    bnd (gsI σ6 193 ((σ6.1 168 33).toNatClampNeg) v2) fun σ8 =>
    gg (¬ (σ8.1 168 33 < 0 ∨ 30 ≤ (σ8.1 168 33).toNatClampNeg)) (
    bnd (gsI σ8 194 ((σ8.1 168 33).toNatClampNeg) v3) fun σ10 =>
    bnd (gsI σ10 168 33 ((σ10.1 168 33) + 1)) fun σ11 =>
    bd (fX11_addPart p1 ((σ11.1 168 33) - 1) σ11) fun _ σ12 =>
    bd (fX11_next σ12) fun _ σ14 =>
    fX11_readCoupling_154 p1 σ14)))
set_option maxHeartbeats 4000000 in
set_option maxRecDepth 100000 in
theorem pX11_readCoupling_92 {E : gE} {p1 : Int32} {r : Unit} {σ' : gS} {v2 : Int32} {v3 : Int32} {σ : gS} (h : fX11_readCoupling_92 p1 v2 v3 σ = some (r, σ')) : gG E mX11_readCoupling 92 [(0, .ref 168), (1, .int p1), (2, .int v2), (3, .int v3)] [] σ (none) σ' := by
  unfold fX11_readCoupling_92 at h
  refine g_aload_n dX11_readCoupling_92 rfl 0 rfl ?_
  obtain ⟨x1, σ2, y3, h⟩ := bd_some h
  refine g_callVr (as := []) (st := []) (zX11_good y3) dX11_readCoupling_93 gi_168 rfl okX11_readCoupling_282 (Nat.le_of_ble_eq_true rfl) ?_
  refine g_if_eq (t := 154) dX11_readCoupling_96 (by decide) (fun c4 => ?_) (fun c4 => ?_)
  · replace h := if_t h c4
    refine g_sub [0] rfl ?_
    exact pX11_readCoupling_154 h
  · replace h := if_f h c4
    refine g_aload_n dX11_readCoupling_99 rfl 0 rfl ?_
    refine g_getC (n := 192) dX11_readCoupling_100 gi_168 rfl fl_RX11_88 ?_
    refine g_aload_n dX11_readCoupling_103 rfl 0 rfl ?_
    refine g_getI dX11_readCoupling_104 gi_168 rfl fl_RX11_344 ?_
    refine g_iload_n dX11_readCoupling_107 rfl 1 rfl ?_
    obtain ⟨g5, h⟩ := gg_some h
    obtain ⟨σ6, eσ6, h⟩ := bnd_nm h
    refine g_iast dX11_readCoupling_108 gi_192 g5 (g_st eσ6 ?_)
    refine g_aload_n dX11_readCoupling_109 rfl 0 rfl ?_
    refine g_getC (n := 193) dX11_readCoupling_110 gi_168 rfl fl_RX11_91 ?_
    refine g_aload_n dX11_readCoupling_113 rfl 0 rfl ?_
    refine g_getI dX11_readCoupling_114 gi_168 rfl fl_RX11_344 ?_
    refine g_iload_n dX11_readCoupling_117 rfl 2 rfl ?_
    obtain ⟨g7, h⟩ := gg_some h
    obtain ⟨σ8, eσ8, h⟩ := bnd_nm h
    refine g_iast dX11_readCoupling_118 gi_193 g7 (g_st eσ8 ?_)
    refine g_aload_n dX11_readCoupling_119 rfl 0 rfl ?_
    refine g_getC (n := 194) dX11_readCoupling_120 gi_168 rfl fl_RX11_94 ?_
    refine g_aload_n dX11_readCoupling_123 rfl 0 rfl ?_
    refine g_getI dX11_readCoupling_124 gi_168 rfl fl_RX11_344 ?_
    refine g_iload_n dX11_readCoupling_127 rfl 3 rfl ?_
    obtain ⟨g9, h⟩ := gg_some h
    obtain ⟨σ10, eσ10, h⟩ := bnd_nm h
    refine g_iast dX11_readCoupling_128 gi_194 g9 (g_st eσ10 ?_)
    refine g_aload_n dX11_readCoupling_129 rfl 0 rfl ?_
    refine g_dup dX11_readCoupling_130 rfl ?_
    refine g_getI dX11_readCoupling_131 gi_168 rfl fl_RX11_344 ?_
    refine g_iconst (v := 1) dX11_readCoupling_134 (by decide) ?_
    refine g_iadd dX11_readCoupling_135 ?_
    obtain ⟨σ11, eσ11, h⟩ := bnd_nm h
    refine g_putI dX11_readCoupling_136 gi_168 rfl fp_RX11_344 (g_st eσ11 ?_)
    refine g_aload_n dX11_readCoupling_139 rfl 0 rfl ?_
    refine g_iload_n dX11_readCoupling_140 rfl 1 rfl ?_
    refine g_aload_n dX11_readCoupling_141 rfl 0 rfl ?_
    refine g_getI dX11_readCoupling_142 gi_168 rfl fl_RX11_344 ?_
    refine g_iconst (v := 1) dX11_readCoupling_145 (by decide) ?_
    refine g_isub dX11_readCoupling_146 ?_
    obtain ⟨_, σ12, y13, h⟩ := bd_some h
    refine g_callVv (as := [.int p1, .int ((σ11.1 168 33) - 1)]) (st := []) (zX11_addPart y13) dX11_readCoupling_147 gi_168 rfl okX11_readCoupling_314 (Nat.le_of_ble_eq_true rfl) ?_
    refine g_aload_n dX11_readCoupling_150 rfl 0 rfl ?_
    obtain ⟨_, σ14, y15, h⟩ := bd_some h
    refine g_callVv (as := []) (st := []) (zX11_next y15) dX11_readCoupling_151 gi_168 rfl okX11_readCoupling_292 (Nat.le_of_ble_eq_true rfl) ?_
    refine g_sub [0] rfl ?_
    exact pX11_readCoupling_154 h
def fX11_readCoupling_86 (p1 : Int32) (v2 : Int32) (v3 : Int32) (σ : gS) : Option (Unit × gS) :=
  bd (fX11_bad 7 σ) fun _ σ1 =>
  fX11_readCoupling_92 p1 v2 v3 σ1
set_option maxHeartbeats 4000000 in
set_option maxRecDepth 100000 in
theorem pX11_readCoupling_86 {E : gE} {p1 : Int32} {r : Unit} {σ' : gS} {v2 : Int32} {v3 : Int32} {σ : gS} (h : fX11_readCoupling_86 p1 v2 v3 σ = some (r, σ')) : gG E mX11_readCoupling 86 [(0, .ref 168), (1, .int p1), (2, .int v2), (3, .int v3)] [] σ (none) σ' := by
  unfold fX11_readCoupling_86 at h
  refine g_aload_n dX11_readCoupling_86 rfl 0 rfl ?_
  refine g_bipush (v := 7) dX11_readCoupling_87 (by decide) ?_
  obtain ⟨_, σ1, y2, h⟩ := bd_some h
  refine g_callVv (as := [.int 7]) (st := []) (zX11_bad y2) dX11_readCoupling_89 gi_168 rfl okX11_readCoupling_285 (Nat.le_of_ble_eq_true rfl) ?_
  exact pX11_readCoupling_92 h
def fX11_readCoupling_54 (p1 : Int32) (v2 : Int32) (v3 : Int32) (σ : gS) : Option (Unit × gS) :=
  bd (fX11_good σ) fun x1 σ2 =>
  if x1 = 0 then
    fX11_readCoupling_92 p1 v2 v3 σ2
  else
    if v2 = v3 then
      fX11_readCoupling_86 p1 v2 v3 σ2
    else
      if p1 = 4 then
        gg (¬ (v2 < 0 ∨ 16 ≤ v2.toNatClampNeg)) (
        gg (¬ (v3 < 0 ∨ 16 ≤ v3.toNatClampNeg)) (
        if (σ2.1 188 v2.toNatClampNeg) = (σ2.1 188 v3.toNatClampNeg) then
          fX11_readCoupling_86 p1 v2 v3 σ2
        else
          fX11_readCoupling_92 p1 v2 v3 σ2))
      else
        fX11_readCoupling_92 p1 v2 v3 σ2
set_option maxHeartbeats 4000000 in
set_option maxRecDepth 100000 in
theorem pX11_readCoupling_54 {E : gE} {p1 : Int32} {r : Unit} {σ' : gS} {v2 : Int32} {v3 : Int32} {σ : gS} (h : fX11_readCoupling_54 p1 v2 v3 σ = some (r, σ')) : gG E mX11_readCoupling 54 [(0, .ref 168), (1, .int p1), (2, .int v2), (3, .int v3)] [] σ (none) σ' := by
  unfold fX11_readCoupling_54 at h
  refine g_aload_n dX11_readCoupling_54 rfl 0 rfl ?_
  obtain ⟨x1, σ2, y3, h⟩ := bd_some h
  refine g_callVr (as := []) (st := []) (zX11_good y3) dX11_readCoupling_55 gi_168 rfl okX11_readCoupling_282 (Nat.le_of_ble_eq_true rfl) ?_
  refine g_if_eq (t := 92) dX11_readCoupling_58 (by decide) (fun c4 => ?_) (fun c4 => ?_)
  · replace h := if_t h c4
    exact pX11_readCoupling_92 h
  · replace h := if_f h c4
    refine g_iload_n dX11_readCoupling_61 rfl 2 rfl ?_
    refine g_iload_n dX11_readCoupling_62 rfl 3 rfl ?_
    refine g_icmp_eq (t := 86) dX11_readCoupling_63 (by decide) (fun c5 => ?_) (fun c5 => ?_)
    · replace h := if_t h c5
      exact pX11_readCoupling_86 h
    · replace h := if_f h c5
      refine g_iload_n dX11_readCoupling_66 rfl 1 rfl ?_
      refine g_iconst (v := 4) dX11_readCoupling_67 (by decide) ?_
      refine g_icmp_ne (t := 92) dX11_readCoupling_68 (by decide) (fun c6 => ?_) (fun c6 => ?_)
      · replace h := if_f h c6
        exact pX11_readCoupling_92 h
      · replace h := if_t h c6
        refine g_aload_n dX11_readCoupling_71 rfl 0 rfl ?_
        refine g_getC (n := 188) dX11_readCoupling_72 gi_168 rfl fl_RX11_76 ?_
        refine g_iload_n dX11_readCoupling_75 rfl 2 rfl ?_
        obtain ⟨g7, h⟩ := gg_some h
        refine g_iald dX11_readCoupling_76 gi_188 g7 ?_
        refine g_aload_n dX11_readCoupling_77 rfl 0 rfl ?_
        refine g_getC (n := 188) dX11_readCoupling_78 gi_168 rfl fl_RX11_76 ?_
        refine g_iload_n dX11_readCoupling_81 rfl 3 rfl ?_
        obtain ⟨g8, h⟩ := gg_some h
        refine g_iald dX11_readCoupling_82 gi_188 g8 ?_
        refine g_icmp_ne (t := 92) dX11_readCoupling_83 (by decide) (fun c9 => ?_) (fun c9 => ?_)
        · replace h := if_f h c9
          exact pX11_readCoupling_92 h
        · replace h := if_t h c9
          exact pX11_readCoupling_86 h
def fX11_readCoupling_31 (p1 : Int32) (v2 : Int32) (s0 : Int32) (σ : gS) : Option (Unit × gS) :=
  bd (fX11_good σ) fun x1 σ2 =>
  if x1 = 0 then
    fX11_readCoupling_54 p1 v2 s0 σ2
  else
    if (σ2.1 168 33) = 30 then
      bd (fX11_bad 6 σ2) fun _ σ6 =>
      fX11_readCoupling_54 p1 v2 s0 σ6
    else
      fX11_readCoupling_54 p1 v2 s0 σ2
set_option maxHeartbeats 4000000 in
set_option maxRecDepth 100000 in
theorem pX11_readCoupling_31 {E : gE} {p1 : Int32} {r : Unit} {σ' : gS} {v2 : Int32} {s0 : Int32} {σ : gS} (h : fX11_readCoupling_31 p1 v2 s0 σ = some (r, σ')) : gG E mX11_readCoupling 31 [(0, .ref 168), (1, .int p1), (2, .int v2)] [.int s0] σ (none) σ' := by
  unfold fX11_readCoupling_31 at h
  refine g_istore_n (lv' := [(3, .int s0), (0, .ref 168), (1, .int p1), (2, .int v2)]) dX11_readCoupling_31 rfl (Nat.le_of_ble_eq_true rfl) rfl ?_
  refine g_aload_n dX11_readCoupling_32 rfl 1 rfl ?_
  obtain ⟨x1, σ2, y3, h⟩ := bd_some h
  refine g_callVr (as := []) (st := []) (zX11_good y3) dX11_readCoupling_33 gi_168 rfl okX11_readCoupling_282 (Nat.le_of_ble_eq_true rfl) ?_
  refine g_if_eq (t := 54) dX11_readCoupling_36 (by decide) (fun c4 => ?_) (fun c4 => ?_)
  · replace h := if_t h c4
    refine g_sub [1, 2, 3, 0] rfl ?_
    exact pX11_readCoupling_54 h
  · replace h := if_f h c4
    refine g_aload_n dX11_readCoupling_39 rfl 1 rfl ?_
    refine g_getI dX11_readCoupling_40 gi_168 rfl fl_RX11_344 ?_
    refine g_bipush (v := 30) dX11_readCoupling_43 (by decide) ?_
    refine g_icmp_ne (t := 54) dX11_readCoupling_45 (by decide) (fun c5 => ?_) (fun c5 => ?_)
    · replace h := if_f h c5
      refine g_sub [1, 2, 3, 0] rfl ?_
      exact pX11_readCoupling_54 h
    · replace h := if_t h c5
      refine g_aload_n dX11_readCoupling_48 rfl 1 rfl ?_
      refine g_bipush (v := 6) dX11_readCoupling_49 (by decide) ?_
      obtain ⟨_, σ6, y7, h⟩ := bd_some h
      refine g_callVv (as := [.int 6]) (st := []) (zX11_bad y7) dX11_readCoupling_51 gi_168 rfl okX11_readCoupling_285 (Nat.le_of_ble_eq_true rfl) ?_
      refine g_sub [1, 2, 3, 0] rfl ?_
      exact pX11_readCoupling_54 h
def fX11_readCoupling_16 (p1 : Int32) (v2 : Int32) (σ : gS) : Option (Unit × gS) :=
  bd (fX11_good σ) fun x1 σ2 =>
  if x1 = 0 then
    fX11_readCoupling_31 p1 v2 (-1) σ2
  else
    bd (fX11_oldWheel σ2) fun x5 σ6 =>
    fX11_readCoupling_31 p1 v2 x5 σ6
set_option maxHeartbeats 4000000 in
set_option maxRecDepth 100000 in
theorem pX11_readCoupling_16 {E : gE} {p1 : Int32} {r : Unit} {σ' : gS} {v2 : Int32} {σ : gS} (h : fX11_readCoupling_16 p1 v2 σ = some (r, σ')) : gG E mX11_readCoupling 16 [(0, .ref 168), (1, .int p1), (2, .int v2)] [] σ (none) σ' := by
  unfold fX11_readCoupling_16 at h
  refine g_aload_n dX11_readCoupling_16 rfl 0 rfl ?_
  obtain ⟨x1, σ2, y3, h⟩ := bd_some h
  refine g_callVr (as := []) (st := []) (zX11_good y3) dX11_readCoupling_17 gi_168 rfl okX11_readCoupling_282 (Nat.le_of_ble_eq_true rfl) ?_
  refine g_if_eq (t := 30) dX11_readCoupling_20 (by decide) (fun c4 => ?_) (fun c4 => ?_)
  · replace h := if_t h c4
    refine g_iconst (v := (-1)) dX11_readCoupling_30 (by decide) ?_
    exact pX11_readCoupling_31 h
  · replace h := if_f h c4
    refine g_aload_n dX11_readCoupling_23 rfl 0 rfl ?_
    obtain ⟨x5, σ6, y7, h⟩ := bd_some h
    refine g_callVr (as := []) (st := []) (zX11_oldWheel y7) dX11_readCoupling_24 gi_168 rfl okX11_readCoupling_341 (Nat.le_of_ble_eq_true rfl) ?_
    refine g_goto (t := 31) dX11_readCoupling_27 (by decide) ?_
    exact pX11_readCoupling_31 h
def fX11_readCoupling (p1 : Int32) (σ : gS) : Option (Unit × gS) :=
  bd (fX11_oldWheel σ) fun x1 σ2 =>
  bd (fX11_good σ2) fun x4 σ5 =>
  if x4 = 0 then
    fX11_readCoupling_16 p1 x1 σ5
  else
    bd (fX11_next σ5) fun _ σ8 =>
    fX11_readCoupling_16 p1 x1 σ8
set_option maxHeartbeats 4000000 in
set_option maxRecDepth 100000 in
theorem pX11_readCoupling {E : gE} {p1 : Int32} {r : Unit} {σ' : gS} {σ : gS} (h : fX11_readCoupling p1 σ = some (r, σ')) : gG E mX11_readCoupling 0 [(0, .ref 168), (1, .int p1)] [] σ (none) σ' := by
  unfold fX11_readCoupling at h
  refine g_aload_n dX11_readCoupling_0 rfl 0 rfl ?_
  obtain ⟨x1, σ2, y3, h⟩ := bd_some h
  refine g_callVr (as := []) (st := []) (zX11_oldWheel y3) dX11_readCoupling_1 gi_168 rfl okX11_readCoupling_341 (Nat.le_of_ble_eq_true rfl) ?_
  refine g_istore_n (lv' := [(2, .int x1), (0, .ref 168), (1, .int p1)]) dX11_readCoupling_4 rfl (Nat.le_of_ble_eq_true rfl) rfl ?_
  refine g_aload_n dX11_readCoupling_5 rfl 1 rfl ?_
  obtain ⟨x4, σ5, y6, h⟩ := bd_some h
  refine g_callVr (as := []) (st := []) (zX11_good y6) dX11_readCoupling_6 gi_168 rfl okX11_readCoupling_282 (Nat.le_of_ble_eq_true rfl) ?_
  refine g_if_eq (t := 16) dX11_readCoupling_9 (by decide) (fun c7 => ?_) (fun c7 => ?_)
  · replace h := if_t h c7
    refine g_sub [1, 2, 0] rfl ?_
    exact pX11_readCoupling_16 h
  · replace h := if_f h c7
    refine g_aload_n dX11_readCoupling_12 rfl 1 rfl ?_
    obtain ⟨_, σ8, y9, h⟩ := bd_some h
    refine g_callVv (as := []) (st := []) (zX11_next y9) dX11_readCoupling_13 gi_168 rfl okX11_readCoupling_292 (Nat.le_of_ble_eq_true rfl) ?_
    refine g_sub [1, 2, 0] rfl ?_
    exact pX11_readCoupling_16 h
theorem zX11_readCoupling {E : gE} {p1 : Int32} {r : Unit} {σ σ' : gS} (h : fX11_readCoupling p1 σ = some (r, σ')) : gC E mX11_readCoupling [.ref 168, .int p1] σ (none) σ' :=
  gC_of (by decide +kernel) rfl (Nat.le_of_ble_eq_true rfl) (pX11_readCoupling h)

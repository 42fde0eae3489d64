theorem n_ldc {E : gE} {M : gM} {K N kc nc pc : Nat} {lv : List (Nat × Value)} {st : List Value} {Mm M' : List va_E} {r : Option Value} {idx : Nat} {v : Int32} (hd : decode M.2.1 pc = .ok (.ldc idx, 2)) (hw : Cond.constant M.2.2.1 idx v ∈ gWS) (kk : nG E M K N (pc + 2) lv (.int v :: st) Mm kc nc r M') : nG E M K N pc lv st Mm kc nc r M' :=
  fun p e R s m args below meth c H locs ls F hP hS hl => lv_ldc F.1 F.2.1 F.2.2.2.2.1 (F.2.2.2.2.2.1 _ hw) hd (kk p e R s m args below meth c H locs ls F hP hS hl)
def dX0 : List Value := [.null, .int 0, .int 0, .int 0, .int 0]
theorem dX0_ok : ∀ j, j < 5 → defaultValue (tyX0 j) = vp_V dX0 j := by decide +kernel
def dX1 : List Value := [.null, .null, .null, .null, .null, .null, .int 0, .int 0, .int 0, .int 0]
theorem dX1_ok : ∀ j, j < 10 → defaultValue (tyX1 j) = vp_V dX1 j := by decide +kernel
def dX2 : List Value := [.int 0, .int 0, .null, .null, .null, .null]
theorem dX2_ok : ∀ j, j < 6 → defaultValue (tyX2 j) = vp_V dX2 j := by decide +kernel
def dX3 : List Value := [.null, .null, .null, .null, .null, .null, .null, .int 0, .int 0, .int 0]
theorem dX3_ok : ∀ j, j < 10 → defaultValue (tyX3 j) = vp_V dX3 j := by decide +kernel
def dX4 : List Value := [.null, .int 0, .int 0, .int 0, .null, .null, .null]
theorem dX4_ok : ∀ j, j < 7 → defaultValue (tyX4 j) = vp_V dX4 j := by decide +kernel
def dX5 : List Value := [.null, .null, .null]
theorem dX5_ok : ∀ j, j < 3 → defaultValue (tyX5 j) = vp_V dX5 j := by decide +kernel
def dX6 : List Value := [.null, .int 0, .null, .null, .int 0, .int 0, .int 0, .int 0, .int 0, .int 0]
theorem dX6_ok : ∀ j, j < 10 → defaultValue (tyX6 j) = vp_V dX6 j := by decide +kernel
def dX7 : List Value := [.int 0, .int 0, .int 0, .null]
theorem dX7_ok : ∀ j, j < 4 → defaultValue (tyX7 j) = vp_V dX7 j := by decide +kernel
def dX8 : List Value := [.null, .null, .null, .null, .long 0, .long 0]
theorem dX8_ok : ∀ j, j < 6 → defaultValue (tyX8 j) = vp_V dX8 j := by decide +kernel
def dX9 : List Value := [.null, .int 0, .null, .null, .null, .null, .null, .null]
theorem dX9_ok : ∀ j, j < 8 → defaultValue (tyX9 j) = vp_V dX9 j := by decide +kernel
def dX10 : List Value := [.null, .null, .null, .null, .null, .null, .int 0, .null, .null, .null, .null, .int 0]
theorem dX10_ok : ∀ j, j < 12 → defaultValue (tyX10 j) = vp_V dX10 j := by decide +kernel
def dX11 : List Value := [.int 0, .null, .null, .null, .null, .int 0, .null, .null, .null, .int 0, .null, .null, .int 0, .null, .null, .null, .int 0, .null, .null, .int 0, .int 0, .int 0, .null, .null, .null, .null, .int 0, .null, .null, .null, .int 0, .null, .null, .int 0, .null, .null, .null, .int 0, .null, .null, .int 0, .int 0, .null, .int 0, .int 0, .int 0, .int 0, .long 0, .int 0, .int 0, .int 0, .int 0, .int 0, .int 0, .null, .null, .null, .int 0, .null, .null, .null, .null, .null, .int 0, .null, .null, .null, .int 0, .null, .int 0, .null, .null, .null, .null, .null, .null, .int 0, .int 0, .null, .null, .null, .int 0, .null, .null, .null, .int 0, .null, .null, .null, .null, .null, .null, .long 0, .long 0, .int 0, .null, .int 0, .null, .null, .null, .null]
theorem dX11_ok : ∀ j, j < 101 → defaultValue (tyX11 j) = vp_V dX11 j := by decide +kernel
theorem gm_oi : Cond.instanceMethod Lib.objectInit ∈ gWS ∧ Cond.code Lib.objectInit ⟨#[0xb1]⟩ 1 none ∈ gWS := ⟨gm 132 (by decide +kernel) rfl, gm 133 (by decide +kernel) rfl⟩
def mX5_init : gM := (yX5_init, cX5_init, RX5, 1, none, 1, 20)
theorem dX5_init_0 : decode mX5_init.2.1 0 = .ok (.aload_n 0, 1) := by decide +kernel
theorem dX5_init_1 : decode mX5_init.2.1 1 = .ok (.invokespecial 3, 3) := by decide +kernel
theorem dX5_init_4 : decode mX5_init.2.1 4 = .ok (.aload_n 0, 1) := by decide +kernel
theorem dX5_init_5 : decode mX5_init.2.1 5 = .ok (.bipush 24, 2) := by decide +kernel
theorem dX5_init_7 : decode mX5_init.2.1 7 = .ok (.newarray .long, 2) := by decide +kernel
theorem dX5_init_9 : decode mX5_init.2.1 9 = .ok (.putfield 9, 3) := by decide +kernel
theorem dX5_init_12 : decode mX5_init.2.1 12 = .ok (.aload_n 0, 1) := by decide +kernel
theorem dX5_init_13 : decode mX5_init.2.1 13 = .ok (.bipush 24, 2) := by decide +kernel
theorem dX5_init_15 : decode mX5_init.2.1 15 = .ok (.newarray .long, 2) := by decide +kernel
theorem dX5_init_17 : decode mX5_init.2.1 17 = .ok (.putfield 15, 3) := by decide +kernel
theorem dX5_init_20 : decode mX5_init.2.1 20 = .ok (.aload_n 0, 1) := by decide +kernel
theorem dX5_init_21 : decode mX5_init.2.1 21 = .ok (.bipush 24, 2) := by decide +kernel
theorem dX5_init_23 : decode mX5_init.2.1 23 = .ok (.newarray .int, 2) := by decide +kernel
theorem dX5_init_25 : decode mX5_init.2.1 25 = .ok (.putfield 18, 3) := by decide +kernel
theorem dX5_init_28 : decode mX5_init.2.1 28 = .ok (.return_, 1) := by decide +kernel
theorem fn_X5_9 : nFp mX5_init 9 5 0 (.array .long) := ⟨RX5, TX5, 3, rfl, by decide, ux_5, (gm 400 (by decide +kernel) rfl), Or.inr ⟨rfl, rfl, rfl⟩, by decide +kernel, ⟨tyX5, tyX5_ok⟩, nmX5⟩
theorem fn_X5_15 : nFp mX5_init 15 5 1 (.array .long) := ⟨RX5, TX5, 3, rfl, by decide, ux_5, (gm 404 (by decide +kernel) rfl), Or.inr ⟨rfl, rfl, rfl⟩, by decide +kernel, ⟨tyX5, tyX5_ok⟩, nmX5⟩
theorem fn_X5_18 : nFp mX5_init 18 5 2 (.array .int) := ⟨RX5, TX5, 3, rfl, by decide, ux_5, (gm 408 (by decide +kernel) rfl), Or.inr ⟨rfl, rfl, rfl⟩, by decide +kernel, ⟨tyX5, tyX5_ok⟩, nmX5⟩
def tX5 (cy : Nat → ClassId) (b : Nat) : List va_E := .inr (5, (((dX5).set 0 (.ref (b + 1 + 0))).set 1 (.ref (b + 1 + (0 + 1)))).set 2 (.ref (b + 1 + ((0 + 1) + 1)))) :: (((([] : List va_E) ++ [eJ cy 24]) ++ [eJ cy 24]) ++ [eI cy 24])
theorem kX5 {E : gE} {Pm : List va_E} {b : Nat} (hb : Pm.length = b) (hB : b + 4 ≤ gNH) : nC E mX5_init 3 72 [.ref b] (Pm ++ [.inr (5, dX5)]) none (Pm ++ tX5 E.2.2.1 b) := by
  refine nC_of (by decide +kernel) rfl (Nat.le_of_ble_eq_true rfl) ?_
  show nG E mX5_init 3 72 0 [(0, .ref b)] [] (nO Pm 5 dX5 []) 0 0 none (nO Pm 5 ((((dX5).set 0 (.ref (b + 1 + 0))).set 1 (.ref (b + 1 + (0 + 1)))).set 2 (.ref (b + 1 + ((0 + 1) + 1)))) (((([] : List va_E) ++ [eJ E.2.2.1 24]) ++ [eJ E.2.2.1 24]) ++ [eI E.2.2.1 24]))
  have hR : ([] : List va_E).length = 0 := rfl
  have hF : dX5.length = 3 := rfl
  refine n_aload_n dX5_init_0 rfl 0 rfl ?_
  refine n_objInit dX5_init_1 ⟨(gm 399 (by decide +kernel) rfl), gm_oi⟩ (Nat.le_of_ble_eq_true rfl) (Nat.le_of_ble_eq_true rfl) (Nat.le_of_ble_eq_true rfl) ?_
  refine n_aload_n dX5_init_4 rfl 0 rfl ?_
  refine n_bipush dX5_init_5 (v := 24) (by decide) ?_
  refine n_naJ (N' := 24) hb hR hF dX5_init_7 dX5_init_9 (by decide +kernel) fn_X5_9 (by decide) (by omega) (Nat.le_of_ble_eq_true rfl) (Nat.le_of_ble_eq_true rfl) (fun hR hF => ?_)
  refine n_aload_n dX5_init_12 rfl 0 rfl ?_
  refine n_bipush dX5_init_13 (v := 24) (by decide) ?_
  refine n_naJ (N' := 24) hb hR hF dX5_init_15 dX5_init_17 (by decide +kernel) fn_X5_15 (by decide) (by omega) (Nat.le_of_ble_eq_true rfl) (Nat.le_of_ble_eq_true rfl) (fun hR hF => ?_)
  refine n_aload_n dX5_init_20 rfl 0 rfl ?_
  refine n_bipush dX5_init_21 (v := 24) (by decide) ?_
  refine n_naI (N' := 24) hb hR hF dX5_init_23 dX5_init_25 (by decide +kernel) fn_X5_18 (by decide) (by omega) (Nat.le_of_ble_eq_true rfl) (Nat.le_of_ble_eq_true rfl) (fun hR hF => ?_)
  exact n_vret dX5_init_28 rfl (Nat.le_of_ble_eq_true rfl) (Nat.le_of_ble_eq_true rfl)
def mX7_init : gM := (yX7_init, cX7_init, RX7, 1, none, 1, 20)
theorem dX7_init_0 : decode mX7_init.2.1 0 = .ok (.aload_n 0, 1) := by decide +kernel
theorem dX7_init_1 : decode mX7_init.2.1 1 = .ok (.invokespecial 3, 3) := by decide +kernel
theorem dX7_init_4 : decode mX7_init.2.1 4 = .ok (.aload_n 0, 1) := by decide +kernel
theorem dX7_init_5 : decode mX7_init.2.1 5 = .ok (.sipush 300, 3) := by decide +kernel
theorem dX7_init_8 : decode mX7_init.2.1 8 = .ok (.newarray .long, 2) := by decide +kernel
theorem dX7_init_10 : decode mX7_init.2.1 10 = .ok (.putfield 9, 3) := by decide +kernel
theorem dX7_init_13 : decode mX7_init.2.1 13 = .ok (.return_, 1) := by decide +kernel
theorem fn_X7_9 : nFp mX7_init 9 7 3 (.array .long) := ⟨RX7, TX7, 4, rfl, by decide, ux_7, (gm 515 (by decide +kernel) rfl), Or.inr ⟨rfl, rfl, rfl⟩, by decide +kernel, ⟨tyX7, tyX7_ok⟩, nmX7⟩
def tX7 (cy : Nat → ClassId) (b : Nat) : List va_E := .inr (7, (dX7).set 3 (.ref (b + 1 + 0))) :: (([] : List va_E) ++ [eJ cy 300])
theorem kX7 {E : gE} {Pm : List va_E} {b : Nat} (hb : Pm.length = b) (hB : b + 2 ≤ gNH) : nC E mX7_init 1 300 [.ref b] (Pm ++ [.inr (7, dX7)]) none (Pm ++ tX7 E.2.2.1 b) := by
  refine nC_of (by decide +kernel) rfl (Nat.le_of_ble_eq_true rfl) ?_
  show nG E mX7_init 1 300 0 [(0, .ref b)] [] (nO Pm 7 dX7 []) 0 0 none (nO Pm 7 ((dX7).set 3 (.ref (b + 1 + 0))) (([] : List va_E) ++ [eJ E.2.2.1 300]))
  have hR : ([] : List va_E).length = 0 := rfl
  have hF : dX7.length = 4 := rfl
  refine n_aload_n dX7_init_0 rfl 0 rfl ?_
  refine n_objInit dX7_init_1 ⟨(gm 508 (by decide +kernel) rfl), gm_oi⟩ (Nat.le_of_ble_eq_true rfl) (Nat.le_of_ble_eq_true rfl) (Nat.le_of_ble_eq_true rfl) ?_
  refine n_aload_n dX7_init_4 rfl 0 rfl ?_
  refine n_sipush dX7_init_5 (v := 300) (by decide) ?_
  refine n_naJ (N' := 300) hb hR hF dX7_init_8 dX7_init_10 (by decide +kernel) fn_X7_9 (by decide) (by omega) (Nat.le_of_ble_eq_true rfl) (Nat.le_of_ble_eq_true rfl) (fun hR hF => ?_)
  exact n_vret dX7_init_13 rfl (Nat.le_of_ble_eq_true rfl) (Nat.le_of_ble_eq_true rfl)
def mX0_init : gM := (yX0_init, cX0_init, RX0, 1, none, 1, 20)
theorem dX0_init_0 : decode mX0_init.2.1 0 = .ok (.aload_n 0, 1) := by decide +kernel
theorem dX0_init_1 : decode mX0_init.2.1 1 = .ok (.invokespecial 3, 3) := by decide +kernel
theorem dX0_init_4 : decode mX0_init.2.1 4 = .ok (.aload_n 0, 1) := by decide +kernel
theorem dX0_init_5 : decode mX0_init.2.1 5 = .ok (.bipush 16, 2) := by decide +kernel
theorem dX0_init_7 : decode mX0_init.2.1 7 = .ok (.newarray .int, 2) := by decide +kernel
theorem dX0_init_9 : decode mX0_init.2.1 9 = .ok (.putfield 11, 3) := by decide +kernel
theorem dX0_init_12 : decode mX0_init.2.1 12 = .ok (.return_, 1) := by decide +kernel
theorem fn_X0_11 : nFp mX0_init 11 0 0 (.array .int) := ⟨RX0, TX0, 5, rfl, by decide, ux_0, (gm 483 (by decide +kernel) rfl), Or.inr ⟨rfl, rfl, rfl⟩, by decide +kernel, ⟨tyX0, tyX0_ok⟩, nmX0⟩
def tX0 (cy : Nat → ClassId) (b : Nat) : List va_E := .inr (0, (dX0).set 0 (.ref (b + 1 + 0))) :: (([] : List va_E) ++ [eI cy 16])
theorem kX0 {E : gE} {Pm : List va_E} {b : Nat} (hb : Pm.length = b) (hB : b + 2 ≤ gNH) : nC E mX0_init 1 16 [.ref b] (Pm ++ [.inr (0, dX0)]) none (Pm ++ tX0 E.2.2.1 b) := by
  refine nC_of (by decide +kernel) rfl (Nat.le_of_ble_eq_true rfl) ?_
  show nG E mX0_init 1 16 0 [(0, .ref b)] [] (nO Pm 0 dX0 []) 0 0 none (nO Pm 0 ((dX0).set 0 (.ref (b + 1 + 0))) (([] : List va_E) ++ [eI E.2.2.1 16]))
  have hR : ([] : List va_E).length = 0 := rfl
  have hF : dX0.length = 5 := rfl
  refine n_aload_n dX0_init_0 rfl 0 rfl ?_
  refine n_objInit dX0_init_1 ⟨(gm 482 (by decide +kernel) rfl), gm_oi⟩ (Nat.le_of_ble_eq_true rfl) (Nat.le_of_ble_eq_true rfl) (Nat.le_of_ble_eq_true rfl) ?_
  refine n_aload_n dX0_init_4 rfl 0 rfl ?_
  refine n_bipush dX0_init_5 (v := 16) (by decide) ?_
  refine n_naI (N' := 16) hb hR hF dX0_init_7 dX0_init_9 (by decide +kernel) fn_X0_11 (by decide) (by omega) (Nat.le_of_ble_eq_true rfl) (Nat.le_of_ble_eq_true rfl) (fun hR hF => ?_)
  exact n_vret dX0_init_12 rfl (Nat.le_of_ble_eq_true rfl) (Nat.le_of_ble_eq_true rfl)
def mX8_init : gM := (yX8_init, cX8_init, RX8, 1, none, 1, 20)
theorem dX8_init_0 : decode mX8_init.2.1 0 = .ok (.aload_n 0, 1) := by decide +kernel
theorem dX8_init_1 : decode mX8_init.2.1 1 = .ok (.invokespecial 3, 3) := by decide +kernel
theorem dX8_init_4 : decode mX8_init.2.1 4 = .ok (.aload_n 0, 1) := by decide +kernel
theorem dX8_init_5 : decode mX8_init.2.1 5 = .ok (.bipush 16, 2) := by decide +kernel
theorem dX8_init_7 : decode mX8_init.2.1 7 = .ok (.newarray .int, 2) := by decide +kernel
theorem dX8_init_9 : decode mX8_init.2.1 9 = .ok (.putfield 9, 3) := by decide +kernel
theorem dX8_init_12 : decode mX8_init.2.1 12 = .ok (.aload_n 0, 1) := by decide +kernel
theorem dX8_init_13 : decode mX8_init.2.1 13 = .ok (.bipush 16, 2) := by decide +kernel
theorem dX8_init_15 : decode mX8_init.2.1 15 = .ok (.newarray .long, 2) := by decide +kernel
theorem dX8_init_17 : decode mX8_init.2.1 17 = .ok (.putfield 15, 3) := by decide +kernel
theorem dX8_init_20 : decode mX8_init.2.1 20 = .ok (.aload_n 0, 1) := by decide +kernel
theorem dX8_init_21 : decode mX8_init.2.1 21 = .ok (.bipush 16, 2) := by decide +kernel
theorem dX8_init_23 : decode mX8_init.2.1 23 = .ok (.newarray .long, 2) := by decide +kernel
theorem dX8_init_25 : decode mX8_init.2.1 25 = .ok (.putfield 19, 3) := by decide +kernel
theorem dX8_init_28 : decode mX8_init.2.1 28 = .ok (.aload_n 0, 1) := by decide +kernel
theorem dX8_init_29 : decode mX8_init.2.1 29 = .ok (.bipush 16, 2) := by decide +kernel
theorem dX8_init_31 : decode mX8_init.2.1 31 = .ok (.newarray .boolean, 2) := by decide +kernel
theorem dX8_init_33 : decode mX8_init.2.1 33 = .ok (.putfield 22, 3) := by decide +kernel
theorem dX8_init_36 : decode mX8_init.2.1 36 = .ok (.return_, 1) := by decide +kernel
theorem fn_X8_9 : nFp mX8_init 9 8 0 (.array .int) := ⟨RX8, TX8, 6, rfl, by decide, ux_8, (gm 455 (by decide +kernel) rfl), Or.inr ⟨rfl, rfl, rfl⟩, by decide +kernel, ⟨tyX8, tyX8_ok⟩, nmX8⟩
theorem fn_X8_15 : nFp mX8_init 15 8 1 (.array .long) := ⟨RX8, TX8, 6, rfl, by decide, ux_8, (gm 457 (by decide +kernel) rfl), Or.inr ⟨rfl, rfl, rfl⟩, by decide +kernel, ⟨tyX8, tyX8_ok⟩, nmX8⟩
theorem fn_X8_19 : nFp mX8_init 19 8 2 (.array .long) := ⟨RX8, TX8, 6, rfl, by decide, ux_8, (gm 459 (by decide +kernel) rfl), Or.inr ⟨rfl, rfl, rfl⟩, by decide +kernel, ⟨tyX8, tyX8_ok⟩, nmX8⟩
theorem fn_X8_22 : nFp mX8_init 22 8 3 (.array .boolean) := ⟨RX8, TX8, 6, rfl, by decide, ux_8, (gm 461 (by decide +kernel) rfl), Or.inr ⟨rfl, rfl, rfl⟩, by decide +kernel, ⟨tyX8, tyX8_ok⟩, nmX8⟩
def tX8 (cy : Nat → ClassId) (b : Nat) : List va_E := .inr (8, ((((dX8).set 0 (.ref (b + 1 + 0))).set 1 (.ref (b + 1 + (0 + 1)))).set 2 (.ref (b + 1 + ((0 + 1) + 1)))).set 3 (.ref (b + 1 + (((0 + 1) + 1) + 1)))) :: ((((([] : List va_E) ++ [eI cy 16]) ++ [eJ cy 16]) ++ [eJ cy 16]) ++ [eZ cy 16])
theorem kX8 {E : gE} {Pm : List va_E} {b : Nat} (hb : Pm.length = b) (hB : b + 5 ≤ gNH) : nC E mX8_init 4 64 [.ref b] (Pm ++ [.inr (8, dX8)]) none (Pm ++ tX8 E.2.2.1 b) := by
  refine nC_of (by decide +kernel) rfl (Nat.le_of_ble_eq_true rfl) ?_
  show nG E mX8_init 4 64 0 [(0, .ref b)] [] (nO Pm 8 dX8 []) 0 0 none (nO Pm 8 (((((dX8).set 0 (.ref (b + 1 + 0))).set 1 (.ref (b + 1 + (0 + 1)))).set 2 (.ref (b + 1 + ((0 + 1) + 1)))).set 3 (.ref (b + 1 + (((0 + 1) + 1) + 1)))) ((((([] : List va_E) ++ [eI E.2.2.1 16]) ++ [eJ E.2.2.1 16]) ++ [eJ E.2.2.1 16]) ++ [eZ E.2.2.1 16]))
  have hR : ([] : List va_E).length = 0 := rfl
  have hF : dX8.length = 6 := rfl
  refine n_aload_n dX8_init_0 rfl 0 rfl ?_
  refine n_objInit dX8_init_1 ⟨(gm 454 (by decide +kernel) rfl), gm_oi⟩ (Nat.le_of_ble_eq_true rfl) (Nat.le_of_ble_eq_true rfl) (Nat.le_of_ble_eq_true rfl) ?_
  refine n_aload_n dX8_init_4 rfl 0 rfl ?_
  refine n_bipush dX8_init_5 (v := 16) (by decide) ?_
  refine n_naI (N' := 16) hb hR hF dX8_init_7 dX8_init_9 (by decide +kernel) fn_X8_9 (by decide) (by omega) (Nat.le_of_ble_eq_true rfl) (Nat.le_of_ble_eq_true rfl) (fun hR hF => ?_)
  refine n_aload_n dX8_init_12 rfl 0 rfl ?_
  refine n_bipush dX8_init_13 (v := 16) (by decide) ?_
  refine n_naJ (N' := 16) hb hR hF dX8_init_15 dX8_init_17 (by decide +kernel) fn_X8_15 (by decide) (by omega) (Nat.le_of_ble_eq_true rfl) (Nat.le_of_ble_eq_true rfl) (fun hR hF => ?_)
  refine n_aload_n dX8_init_20 rfl 0 rfl ?_
  refine n_bipush dX8_init_21 (v := 16) (by decide) ?_
  refine n_naJ (N' := 16) hb hR hF dX8_init_23 dX8_init_25 (by decide +kernel) fn_X8_19 (by decide) (by omega) (Nat.le_of_ble_eq_true rfl) (Nat.le_of_ble_eq_true rfl) (fun hR hF => ?_)
  refine n_aload_n dX8_init_28 rfl 0 rfl ?_
  refine n_bipush dX8_init_29 (v := 16) (by decide) ?_
  refine n_naZ (N' := 16) hb hR hF dX8_init_31 dX8_init_33 (by decide +kernel) fn_X8_22 (by decide) (by omega) (Nat.le_of_ble_eq_true rfl) (Nat.le_of_ble_eq_true rfl) (fun hR hF => ?_)
  exact n_vret dX8_init_36 rfl (Nat.le_of_ble_eq_true rfl) (Nat.le_of_ble_eq_true rfl)
def mX9_init : gM := (yX9_init, cX9_init, RX9, 1, none, 1, 20)
theorem dX9_init_0 : decode mX9_init.2.1 0 = .ok (.aload_n 0, 1) := by decide +kernel
theorem dX9_init_1 : decode mX9_init.2.1 1 = .ok (.invokespecial 3, 3) := by decide +kernel
theorem dX9_init_4 : decode mX9_init.2.1 4 = .ok (.aload_n 0, 1) := by decide +kernel
theorem dX9_init_5 : decode mX9_init.2.1 5 = .ok (.bipush 24, 2) := by decide +kernel
theorem dX9_init_7 : decode mX9_init.2.1 7 = .ok (.newarray .int, 2) := by decide +kernel
theorem dX9_init_9 : decode mX9_init.2.1 9 = .ok (.putfield 9, 3) := by decide +kernel
theorem dX9_init_12 : decode mX9_init.2.1 12 = .ok (.aload_n 0, 1) := by decide +kernel
theorem dX9_init_13 : decode mX9_init.2.1 13 = .ok (.bipush 24, 2) := by decide +kernel
theorem dX9_init_15 : decode mX9_init.2.1 15 = .ok (.newarray .boolean, 2) := by decide +kernel
theorem dX9_init_17 : decode mX9_init.2.1 17 = .ok (.putfield 15, 3) := by decide +kernel
theorem dX9_init_20 : decode mX9_init.2.1 20 = .ok (.aload_n 0, 1) := by decide +kernel
theorem dX9_init_21 : decode mX9_init.2.1 21 = .ok (.bipush 24, 2) := by decide +kernel
theorem dX9_init_23 : decode mX9_init.2.1 23 = .ok (.newarray .int, 2) := by decide +kernel
theorem dX9_init_25 : decode mX9_init.2.1 25 = .ok (.putfield 19, 3) := by decide +kernel
theorem dX9_init_28 : decode mX9_init.2.1 28 = .ok (.aload_n 0, 1) := by decide +kernel
theorem dX9_init_29 : decode mX9_init.2.1 29 = .ok (.bipush 24, 2) := by decide +kernel
theorem dX9_init_31 : decode mX9_init.2.1 31 = .ok (.newarray .int, 2) := by decide +kernel
theorem dX9_init_33 : decode mX9_init.2.1 33 = .ok (.putfield 22, 3) := by decide +kernel
theorem dX9_init_36 : decode mX9_init.2.1 36 = .ok (.aload_n 0, 1) := by decide +kernel
theorem dX9_init_37 : decode mX9_init.2.1 37 = .ok (.bipush 24, 2) := by decide +kernel
theorem dX9_init_39 : decode mX9_init.2.1 39 = .ok (.newarray .int, 2) := by decide +kernel
theorem dX9_init_41 : decode mX9_init.2.1 41 = .ok (.putfield 25, 3) := by decide +kernel
theorem dX9_init_44 : decode mX9_init.2.1 44 = .ok (.aload_n 0, 1) := by decide +kernel
theorem dX9_init_45 : decode mX9_init.2.1 45 = .ok (.bipush 24, 2) := by decide +kernel
theorem dX9_init_47 : decode mX9_init.2.1 47 = .ok (.newarray .long, 2) := by decide +kernel
theorem dX9_init_49 : decode mX9_init.2.1 49 = .ok (.putfield 28, 3) := by decide +kernel
theorem dX9_init_52 : decode mX9_init.2.1 52 = .ok (.aload_n 0, 1) := by decide +kernel
theorem dX9_init_53 : decode mX9_init.2.1 53 = .ok (.bipush 24, 2) := by decide +kernel
theorem dX9_init_55 : decode mX9_init.2.1 55 = .ok (.newarray .long, 2) := by decide +kernel
theorem dX9_init_57 : decode mX9_init.2.1 57 = .ok (.putfield 32, 3) := by decide +kernel
theorem dX9_init_60 : decode mX9_init.2.1 60 = .ok (.return_, 1) := by decide +kernel
theorem fn_X9_9 : nFp mX9_init 9 9 0 (.array .int) := ⟨RX9, TX9, 8, rfl, by decide, ux_9, (gm 363 (by decide +kernel) rfl), Or.inr ⟨rfl, rfl, rfl⟩, by decide +kernel, ⟨tyX9, tyX9_ok⟩, nmX9⟩
theorem fn_X9_15 : nFp mX9_init 15 9 2 (.array .boolean) := ⟨RX9, TX9, 8, rfl, by decide, ux_9, (gm 367 (by decide +kernel) rfl), Or.inr ⟨rfl, rfl, rfl⟩, by decide +kernel, ⟨tyX9, tyX9_ok⟩, nmX9⟩
theorem fn_X9_19 : nFp mX9_init 19 9 3 (.array .int) := ⟨RX9, TX9, 8, rfl, by decide, ux_9, (gm 368 (by decide +kernel) rfl), Or.inr ⟨rfl, rfl, rfl⟩, by decide +kernel, ⟨tyX9, tyX9_ok⟩, nmX9⟩
theorem fn_X9_22 : nFp mX9_init 22 9 4 (.array .int) := ⟨RX9, TX9, 8, rfl, by decide, ux_9, (gm 370 (by decide +kernel) rfl), Or.inr ⟨rfl, rfl, rfl⟩, by decide +kernel, ⟨tyX9, tyX9_ok⟩, nmX9⟩
theorem fn_X9_25 : nFp mX9_init 25 9 5 (.array .int) := ⟨RX9, TX9, 8, rfl, by decide, ux_9, (gm 372 (by decide +kernel) rfl), Or.inr ⟨rfl, rfl, rfl⟩, by decide +kernel, ⟨tyX9, tyX9_ok⟩, nmX9⟩
theorem fn_X9_28 : nFp mX9_init 28 9 6 (.array .long) := ⟨RX9, TX9, 8, rfl, by decide, ux_9, (gm 374 (by decide +kernel) rfl), Or.inr ⟨rfl, rfl, rfl⟩, by decide +kernel, ⟨tyX9, tyX9_ok⟩, nmX9⟩
theorem fn_X9_32 : nFp mX9_init 32 9 7 (.array .long) := ⟨RX9, TX9, 8, rfl, by decide, ux_9, (gm 375 (by decide +kernel) rfl), Or.inr ⟨rfl, rfl, rfl⟩, by decide +kernel, ⟨tyX9, tyX9_ok⟩, nmX9⟩
def tX9 (cy : Nat → ClassId) (b : Nat) : List va_E := .inr (9, (((((((dX9).set 0 (.ref (b + 1 + 0))).set 2 (.ref (b + 1 + (0 + 1)))).set 3 (.ref (b + 1 + ((0 + 1) + 1)))).set 4 (.ref (b + 1 + (((0 + 1) + 1) + 1)))).set 5 (.ref (b + 1 + ((((0 + 1) + 1) + 1) + 1)))).set 6 (.ref (b + 1 + (((((0 + 1) + 1) + 1) + 1) + 1)))).set 7 (.ref (b + 1 + ((((((0 + 1) + 1) + 1) + 1) + 1) + 1)))) :: (((((((([] : List va_E) ++ [eI cy 24]) ++ [eZ cy 24]) ++ [eI cy 24]) ++ [eI cy 24]) ++ [eI cy 24]) ++ [eJ cy 24]) ++ [eJ cy 24])
theorem kX9 {E : gE} {Pm : List va_E} {b : Nat} (hb : Pm.length = b) (hB : b + 8 ≤ gNH) : nC E mX9_init 7 168 [.ref b] (Pm ++ [.inr (9, dX9)]) none (Pm ++ tX9 E.2.2.1 b) := by
  refine nC_of (by decide +kernel) rfl (Nat.le_of_ble_eq_true rfl) ?_
  show nG E mX9_init 7 168 0 [(0, .ref b)] [] (nO Pm 9 dX9 []) 0 0 none (nO Pm 9 ((((((((dX9).set 0 (.ref (b + 1 + 0))).set 2 (.ref (b + 1 + (0 + 1)))).set 3 (.ref (b + 1 + ((0 + 1) + 1)))).set 4 (.ref (b + 1 + (((0 + 1) + 1) + 1)))).set 5 (.ref (b + 1 + ((((0 + 1) + 1) + 1) + 1)))).set 6 (.ref (b + 1 + (((((0 + 1) + 1) + 1) + 1) + 1)))).set 7 (.ref (b + 1 + ((((((0 + 1) + 1) + 1) + 1) + 1) + 1)))) (((((((([] : List va_E) ++ [eI E.2.2.1 24]) ++ [eZ E.2.2.1 24]) ++ [eI E.2.2.1 24]) ++ [eI E.2.2.1 24]) ++ [eI E.2.2.1 24]) ++ [eJ E.2.2.1 24]) ++ [eJ E.2.2.1 24]))
  have hR : ([] : List va_E).length = 0 := rfl
  have hF : dX9.length = 8 := rfl
  refine n_aload_n dX9_init_0 rfl 0 rfl ?_
  refine n_objInit dX9_init_1 ⟨(gm 362 (by decide +kernel) rfl), gm_oi⟩ (Nat.le_of_ble_eq_true rfl) (Nat.le_of_ble_eq_true rfl) (Nat.le_of_ble_eq_true rfl) ?_
  refine n_aload_n dX9_init_4 rfl 0 rfl ?_
  refine n_bipush dX9_init_5 (v := 24) (by decide) ?_
  refine n_naI (N' := 24) hb hR hF dX9_init_7 dX9_init_9 (by decide +kernel) fn_X9_9 (by decide) (by omega) (Nat.le_of_ble_eq_true rfl) (Nat.le_of_ble_eq_true rfl) (fun hR hF => ?_)
  refine n_aload_n dX9_init_12 rfl 0 rfl ?_
  refine n_bipush dX9_init_13 (v := 24) (by decide) ?_
  refine n_naZ (N' := 24) hb hR hF dX9_init_15 dX9_init_17 (by decide +kernel) fn_X9_15 (by decide) (by omega) (Nat.le_of_ble_eq_true rfl) (Nat.le_of_ble_eq_true rfl) (fun hR hF => ?_)
  refine n_aload_n dX9_init_20 rfl 0 rfl ?_
  refine n_bipush dX9_init_21 (v := 24) (by decide) ?_
  refine n_naI (N' := 24) hb hR hF dX9_init_23 dX9_init_25 (by decide +kernel) fn_X9_19 (by decide) (by omega) (Nat.le_of_ble_eq_true rfl) (Nat.le_of_ble_eq_true rfl) (fun hR hF => ?_)
  refine n_aload_n dX9_init_28 rfl 0 rfl ?_
  refine n_bipush dX9_init_29 (v := 24) (by decide) ?_
  refine n_naI (N' := 24) hb hR hF dX9_init_31 dX9_init_33 (by decide +kernel) fn_X9_22 (by decide) (by omega) (Nat.le_of_ble_eq_true rfl) (Nat.le_of_ble_eq_true rfl) (fun hR hF => ?_)
  refine n_aload_n dX9_init_36 rfl 0 rfl ?_
  refine n_bipush dX9_init_37 (v := 24) (by decide) ?_
  refine n_naI (N' := 24) hb hR hF dX9_init_39 dX9_init_41 (by decide +kernel) fn_X9_25 (by decide) (by omega) (Nat.le_of_ble_eq_true rfl) (Nat.le_of_ble_eq_true rfl) (fun hR hF => ?_)
  refine n_aload_n dX9_init_44 rfl 0 rfl ?_
  refine n_bipush dX9_init_45 (v := 24) (by decide) ?_
  refine n_naJ (N' := 24) hb hR hF dX9_init_47 dX9_init_49 (by decide +kernel) fn_X9_28 (by decide) (by omega) (Nat.le_of_ble_eq_true rfl) (Nat.le_of_ble_eq_true rfl) (fun hR hF => ?_)
  refine n_aload_n dX9_init_52 rfl 0 rfl ?_
  refine n_bipush dX9_init_53 (v := 24) (by decide) ?_
  refine n_naJ (N' := 24) hb hR hF dX9_init_55 dX9_init_57 (by decide +kernel) fn_X9_32 (by decide) (by omega) (Nat.le_of_ble_eq_true rfl) (Nat.le_of_ble_eq_true rfl) (fun hR hF => ?_)
  exact n_vret dX9_init_60 rfl (Nat.le_of_ble_eq_true rfl) (Nat.le_of_ble_eq_true rfl)
def mX2_init : gM := (yX2_init, cX2_init, RX2, 1, none, 2, 40)
theorem dX2_init_0 : decode mX2_init.2.1 0 = .ok (.aload_n 0, 1) := by decide +kernel
theorem dX2_init_1 : decode mX2_init.2.1 1 = .ok (.invokespecial 3, 3) := by decide +kernel
theorem dX2_init_4 : decode mX2_init.2.1 4 = .ok (.aload_n 0, 1) := by decide +kernel
theorem dX2_init_5 : decode mX2_init.2.1 5 = .ok (.sipush 256, 3) := by decide +kernel
theorem dX2_init_8 : decode mX2_init.2.1 8 = .ok (.newarray .long, 2) := by decide +kernel
theorem dX2_init_10 : decode mX2_init.2.1 10 = .ok (.putfield 9, 3) := by decide +kernel
theorem dX2_init_13 : decode mX2_init.2.1 13 = .ok (.aload_n 0, 1) := by decide +kernel
theorem dX2_init_14 : decode mX2_init.2.1 14 = .ok (.sipush 256, 3) := by decide +kernel
theorem dX2_init_17 : decode mX2_init.2.1 17 = .ok (.newarray .long, 2) := by decide +kernel
theorem dX2_init_19 : decode mX2_init.2.1 19 = .ok (.putfield 15, 3) := by decide +kernel
theorem dX2_init_22 : decode mX2_init.2.1 22 = .ok (.aload_n 0, 1) := by decide +kernel
theorem dX2_init_23 : decode mX2_init.2.1 23 = .ok (.sipush 256, 3) := by decide +kernel
theorem dX2_init_26 : decode mX2_init.2.1 26 = .ok (.newarray .boolean, 2) := by decide +kernel
theorem dX2_init_28 : decode mX2_init.2.1 28 = .ok (.putfield 18, 3) := by decide +kernel
theorem dX2_init_31 : decode mX2_init.2.1 31 = .ok (.aload_n 0, 1) := by decide +kernel
theorem dX2_init_32 : decode mX2_init.2.1 32 = .ok (.new 22, 3) := by decide +kernel
theorem dX2_init_35 : decode mX2_init.2.1 35 = .ok (.dup, 1) := by decide +kernel
theorem dX2_init_36 : decode mX2_init.2.1 36 = .ok (.invokespecial 24, 3) := by decide +kernel
theorem dX2_init_39 : decode mX2_init.2.1 39 = .ok (.putfield 25, 3) := by decide +kernel
theorem dX2_init_42 : decode mX2_init.2.1 42 = .ok (.return_, 1) := by decide +kernel
theorem fn_X2_9 : nFp mX2_init 9 2 2 (.array .long) := ⟨RX2, TX2, 6, rfl, by decide, ux_2, (gm 431 (by decide +kernel) rfl), Or.inr ⟨rfl, rfl, rfl⟩, by decide +kernel, ⟨tyX2, tyX2_ok⟩, nmX2⟩
theorem fn_X2_15 : nFp mX2_init 15 2 3 (.array .long) := ⟨RX2, TX2, 6, rfl, by decide, ux_2, (gm 432 (by decide +kernel) rfl), Or.inr ⟨rfl, rfl, rfl⟩, by decide +kernel, ⟨tyX2, tyX2_ok⟩, nmX2⟩
theorem fn_X2_18 : nFp mX2_init 18 2 4 (.array .boolean) := ⟨RX2, TX2, 6, rfl, by decide, ux_2, (gm 433 (by decide +kernel) rfl), Or.inr ⟨rfl, rfl, rfl⟩, by decide +kernel, ⟨tyX2, tyX2_ok⟩, nmX2⟩
theorem okc_mX2_init_24 : nOk mX2_init mX5_init 24 3 72 := ⟨List.forall_mem_cons.mpr ⟨(gm 398 (by decide +kernel) rfl), List.forall_mem_cons.mpr ⟨(gm 397 (by decide +kernel) rfl), List.forall_mem_cons.mpr ⟨(gm 117 (by decide +kernel) rfl), fun _ h => absurd h List.not_mem_nil⟩⟩⟩, Or.inr (by decide +kernel), by decide +kernel, by decide +kernel, by decide +kernel, rfl, rfl⟩
theorem fn_X2_25 : nFp mX2_init 25 2 5 (.object "LinkageCurves$Places") := ⟨RX2, TX2, 6, rfl, by decide, ux_2, (gm 435 (by decide +kernel) rfl), Or.inr ⟨rfl, rfl, rfl⟩, by decide +kernel, ⟨tyX2, tyX2_ok⟩, nmX2⟩
def tX2 (cy : Nat → ClassId) (b : Nat) : List va_E := .inr (2, ((((dX2).set 2 (.ref (b + 1 + 0))).set 3 (.ref (b + 1 + (0 + 1)))).set 4 (.ref (b + 1 + ((0 + 1) + 1)))).set 5 (.ref (b + 1 + (((0 + 1) + 1) + 1)))) :: ((((([] : List va_E) ++ [eJ cy 256]) ++ [eJ cy 256]) ++ [eZ cy 256]) ++ tX5 cy (b + 1 + (((0 + 1) + 1) + 1)))
theorem kX2 {E : gE} {Pm : List va_E} {b : Nat} (hb : Pm.length = b) (hB : b + 8 ≤ gNH) : nC E mX2_init 7 843 [.ref b] (Pm ++ [.inr (2, dX2)]) none (Pm ++ tX2 E.2.2.1 b) := by
  refine nC_of (by decide +kernel) rfl (Nat.le_of_ble_eq_true rfl) ?_
  show nG E mX2_init 7 843 0 [(0, .ref b)] [] (nO Pm 2 dX2 []) 0 0 none (nO Pm 2 (((((dX2).set 2 (.ref (b + 1 + 0))).set 3 (.ref (b + 1 + (0 + 1)))).set 4 (.ref (b + 1 + ((0 + 1) + 1)))).set 5 (.ref (b + 1 + (((0 + 1) + 1) + 1)))) ((((([] : List va_E) ++ [eJ E.2.2.1 256]) ++ [eJ E.2.2.1 256]) ++ [eZ E.2.2.1 256]) ++ tX5 E.2.2.1 (b + 1 + (((0 + 1) + 1) + 1))))
  have hR : ([] : List va_E).length = 0 := rfl
  have hF : dX2.length = 6 := rfl
  refine n_aload_n dX2_init_0 rfl 0 rfl ?_
  refine n_objInit dX2_init_1 ⟨(gm 424 (by decide +kernel) rfl), gm_oi⟩ (Nat.le_of_ble_eq_true rfl) (Nat.le_of_ble_eq_true rfl) (Nat.le_of_ble_eq_true rfl) ?_
  refine n_aload_n dX2_init_4 rfl 0 rfl ?_
  refine n_sipush dX2_init_5 (v := 256) (by decide) ?_
  refine n_naJ (N' := 256) hb hR hF dX2_init_8 dX2_init_10 (by decide +kernel) fn_X2_9 (by decide) (by omega) (Nat.le_of_ble_eq_true rfl) (Nat.le_of_ble_eq_true rfl) (fun hR hF => ?_)
  refine n_aload_n dX2_init_13 rfl 0 rfl ?_
  refine n_sipush dX2_init_14 (v := 256) (by decide) ?_
  refine n_naJ (N' := 256) hb hR hF dX2_init_17 dX2_init_19 (by decide +kernel) fn_X2_15 (by decide) (by omega) (Nat.le_of_ble_eq_true rfl) (Nat.le_of_ble_eq_true rfl) (fun hR hF => ?_)
  refine n_aload_n dX2_init_22 rfl 0 rfl ?_
  refine n_sipush dX2_init_23 (v := 256) (by decide) ?_
  refine n_naZ (N' := 256) hb hR hF dX2_init_26 dX2_init_28 (by decide +kernel) fn_X2_18 (by decide) (by omega) (Nat.le_of_ble_eq_true rfl) (Nat.le_of_ble_eq_true rfl) (fun hR hF => ?_)
  refine n_aload_n dX2_init_31 rfl 0 rfl ?_
  refine n_sub (k2 := 4) hb hR hF dX2_init_32 dX2_init_35 dX2_init_36 dX2_init_39 ux_5 tyX5_ok ⟨(gm 425 (by decide +kernel) rfl), (gm 395 (by decide +kernel) rfl), (gm 117 (by decide +kernel) rfl)⟩ rfl dX5_ok (fun _ => rfl) (kX5 (nO_len hb hR) (by omega)) okc_mX2_init_24 fn_X2_25 (by decide) (by omega) rfl (Nat.le_of_ble_eq_true rfl) (Nat.le_of_ble_eq_true rfl) (Nat.le_of_ble_eq_true rfl) (fun hR hF => ?_)
  exact n_vret dX2_init_42 rfl (Nat.le_of_ble_eq_true rfl) (Nat.le_of_ble_eq_true rfl)
def mX1_init : gM := (yX1_init, cX1_init, RX1, 1, none, 1, 20)
theorem dX1_init_0 : decode mX1_init.2.1 0 = .ok (.aload_n 0, 1) := by decide +kernel
theorem dX1_init_1 : decode mX1_init.2.1 1 = .ok (.invokespecial 3, 3) := by decide +kernel
theorem dX1_init_4 : decode mX1_init.2.1 4 = .ok (.aload_n 0, 1) := by decide +kernel
theorem dX1_init_5 : decode mX1_init.2.1 5 = .ok (.bipush 24, 2) := by decide +kernel
theorem dX1_init_7 : decode mX1_init.2.1 7 = .ok (.iconst 2, 1) := by decide +kernel
theorem dX1_init_8 : decode mX1_init.2.1 8 = .ok (.multianewarray 9 2, 4) := by decide +kernel
theorem dX1_init_12 : decode mX1_init.2.1 12 = .ok (.putfield 11, 3) := by decide +kernel
theorem dX1_init_15 : decode mX1_init.2.1 15 = .ok (.aload_n 0, 1) := by decide +kernel
theorem dX1_init_16 : decode mX1_init.2.1 16 = .ok (.bipush 24, 2) := by decide +kernel
theorem dX1_init_18 : decode mX1_init.2.1 18 = .ok (.newarray .int, 2) := by decide +kernel
theorem dX1_init_20 : decode mX1_init.2.1 20 = .ok (.putfield 16, 3) := by decide +kernel
theorem dX1_init_23 : decode mX1_init.2.1 23 = .ok (.aload_n 0, 1) := by decide +kernel
theorem dX1_init_24 : decode mX1_init.2.1 24 = .ok (.bipush 24, 2) := by decide +kernel
theorem dX1_init_26 : decode mX1_init.2.1 26 = .ok (.newarray .int, 2) := by decide +kernel
theorem dX1_init_28 : decode mX1_init.2.1 28 = .ok (.putfield 20, 3) := by decide +kernel
theorem dX1_init_31 : decode mX1_init.2.1 31 = .ok (.aload_n 0, 1) := by decide +kernel
theorem dX1_init_32 : decode mX1_init.2.1 32 = .ok (.bipush 60, 2) := by decide +kernel
theorem dX1_init_34 : decode mX1_init.2.1 34 = .ok (.newarray .boolean, 2) := by decide +kernel
theorem dX1_init_36 : decode mX1_init.2.1 36 = .ok (.putfield 23, 3) := by decide +kernel
theorem dX1_init_39 : decode mX1_init.2.1 39 = .ok (.aload_n 0, 1) := by decide +kernel
theorem dX1_init_40 : decode mX1_init.2.1 40 = .ok (.bipush 24, 2) := by decide +kernel
theorem dX1_init_42 : decode mX1_init.2.1 42 = .ok (.newarray .int, 2) := by decide +kernel
theorem dX1_init_44 : decode mX1_init.2.1 44 = .ok (.putfield 27, 3) := by decide +kernel
theorem dX1_init_47 : decode mX1_init.2.1 47 = .ok (.aload_n 0, 1) := by decide +kernel
theorem dX1_init_48 : decode mX1_init.2.1 48 = .ok (.bipush 60, 2) := by decide +kernel
theorem dX1_init_50 : decode mX1_init.2.1 50 = .ok (.newarray .int, 2) := by decide +kernel
theorem dX1_init_52 : decode mX1_init.2.1 52 = .ok (.putfield 30, 3) := by decide +kernel
theorem dX1_init_55 : decode mX1_init.2.1 55 = .ok (.return_, 1) := by decide +kernel
theorem fn_X1_11 : nFp mX1_init 11 1 0 (.array (.array .int)) := ⟨RX1, TX1, 10, rfl, by decide, ux_1, (gm 288 (by decide +kernel) rfl), Or.inr ⟨rfl, rfl, rfl⟩, by decide +kernel, ⟨tyX1, tyX1_ok⟩, nmX1⟩
theorem fn_X1_16 : nFp mX1_init 16 1 1 (.array .int) := ⟨RX1, TX1, 10, rfl, by decide, ux_1, (gm 289 (by decide +kernel) rfl), Or.inr ⟨rfl, rfl, rfl⟩, by decide +kernel, ⟨tyX1, tyX1_ok⟩, nmX1⟩
theorem fn_X1_20 : nFp mX1_init 20 1 2 (.array .int) := ⟨RX1, TX1, 10, rfl, by decide, ux_1, (gm 290 (by decide +kernel) rfl), Or.inr ⟨rfl, rfl, rfl⟩, by decide +kernel, ⟨tyX1, tyX1_ok⟩, nmX1⟩
theorem fn_X1_23 : nFp mX1_init 23 1 3 (.array .boolean) := ⟨RX1, TX1, 10, rfl, by decide, ux_1, (gm 291 (by decide +kernel) rfl), Or.inr ⟨rfl, rfl, rfl⟩, by decide +kernel, ⟨tyX1, tyX1_ok⟩, nmX1⟩
theorem fn_X1_27 : nFp mX1_init 27 1 4 (.array .int) := ⟨RX1, TX1, 10, rfl, by decide, ux_1, (gm 293 (by decide +kernel) rfl), Or.inr ⟨rfl, rfl, rfl⟩, by decide +kernel, ⟨tyX1, tyX1_ok⟩, nmX1⟩
theorem fn_X1_30 : nFp mX1_init 30 1 5 (.array .int) := ⟨RX1, TX1, 10, rfl, by decide, ux_1, (gm 294 (by decide +kernel) rfl), Or.inr ⟨rfl, rfl, rfl⟩, by decide +kernel, ⟨tyX1, tyX1_ok⟩, nmX1⟩
def tX1 (cy : Nat → ClassId) (b : Nat) : List va_E := .inr (1, ((((((dX1).set 0 (.ref (b + 1 + 0))).set 1 (.ref (b + 1 + (0 + 1 + 24)))).set 2 (.ref (b + 1 + ((0 + 1 + 24) + 1)))).set 3 (.ref (b + 1 + (((0 + 1 + 24) + 1) + 1)))).set 4 (.ref (b + 1 + ((((0 + 1 + 24) + 1) + 1) + 1)))).set 5 (.ref (b + 1 + (((((0 + 1 + 24) + 1) + 1) + 1) + 1)))) :: ((((((([] : List va_E) ++ nMA cy (b + 1 + 0 + 1) 24 2) ++ [eI cy 24]) ++ [eI cy 24]) ++ [eZ cy 60]) ++ [eI cy 24]) ++ [eI cy 60])
theorem kX1 {E : gE} {Pm : List va_E} {b : Nat} (hb : Pm.length = b) (hB : b + 31 ≤ gNH) : nC E mX1_init 30 264 [.ref b] (Pm ++ [.inr (1, dX1)]) none (Pm ++ tX1 E.2.2.1 b) := by
  refine nC_of (by decide +kernel) rfl (Nat.le_of_ble_eq_true rfl) ?_
  show nG E mX1_init 30 264 0 [(0, .ref b)] [] (nO Pm 1 dX1 []) 0 0 none (nO Pm 1 (((((((dX1).set 0 (.ref (b + 1 + 0))).set 1 (.ref (b + 1 + (0 + 1 + 24)))).set 2 (.ref (b + 1 + ((0 + 1 + 24) + 1)))).set 3 (.ref (b + 1 + (((0 + 1 + 24) + 1) + 1)))).set 4 (.ref (b + 1 + ((((0 + 1 + 24) + 1) + 1) + 1)))).set 5 (.ref (b + 1 + (((((0 + 1 + 24) + 1) + 1) + 1) + 1)))) ((((((([] : List va_E) ++ nMA E.2.2.1 (b + 1 + 0 + 1) 24 2) ++ [eI E.2.2.1 24]) ++ [eI E.2.2.1 24]) ++ [eZ E.2.2.1 60]) ++ [eI E.2.2.1 24]) ++ [eI E.2.2.1 60]))
  have hR : ([] : List va_E).length = 0 := rfl
  have hF : dX1.length = 10 := rfl
  refine n_aload_n dX1_init_0 rfl 0 rfl ?_
  refine n_objInit dX1_init_1 ⟨(gm 286 (by decide +kernel) rfl), gm_oi⟩ (Nat.le_of_ble_eq_true rfl) (Nat.le_of_ble_eq_true rfl) (Nat.le_of_ble_eq_true rfl) ?_
  refine n_aload_n dX1_init_4 rfl 0 rfl ?_
  refine n_bipush dX1_init_5 (v := 24) (by decide) ?_
  refine n_iconst dX1_init_7 (v := 2) (by decide) ?_
  refine n_ma (N' := 24) (k0 := 2) hb hR hF dX1_init_8 dX1_init_12 (gm 287 (by decide +kernel) rfl) (by decide +kernel) fn_X1_11 (by decide) (by omega) (Nat.le_of_ble_eq_true rfl) (Nat.le_of_ble_eq_true rfl) (fun hR hF => ?_)
  refine n_aload_n dX1_init_15 rfl 0 rfl ?_
  refine n_bipush dX1_init_16 (v := 24) (by decide) ?_
  refine n_naI (N' := 24) hb hR hF dX1_init_18 dX1_init_20 (by decide +kernel) fn_X1_16 (by decide) (by omega) (Nat.le_of_ble_eq_true rfl) (Nat.le_of_ble_eq_true rfl) (fun hR hF => ?_)
  refine n_aload_n dX1_init_23 rfl 0 rfl ?_
  refine n_bipush dX1_init_24 (v := 24) (by decide) ?_
  refine n_naI (N' := 24) hb hR hF dX1_init_26 dX1_init_28 (by decide +kernel) fn_X1_20 (by decide) (by omega) (Nat.le_of_ble_eq_true rfl) (Nat.le_of_ble_eq_true rfl) (fun hR hF => ?_)
  refine n_aload_n dX1_init_31 rfl 0 rfl ?_
  refine n_bipush dX1_init_32 (v := 60) (by decide) ?_
  refine n_naZ (N' := 60) hb hR hF dX1_init_34 dX1_init_36 (by decide +kernel) fn_X1_23 (by decide) (by omega) (Nat.le_of_ble_eq_true rfl) (Nat.le_of_ble_eq_true rfl) (fun hR hF => ?_)
  refine n_aload_n dX1_init_39 rfl 0 rfl ?_
  refine n_bipush dX1_init_40 (v := 24) (by decide) ?_
  refine n_naI (N' := 24) hb hR hF dX1_init_42 dX1_init_44 (by decide +kernel) fn_X1_27 (by decide) (by omega) (Nat.le_of_ble_eq_true rfl) (Nat.le_of_ble_eq_true rfl) (fun hR hF => ?_)
  refine n_aload_n dX1_init_47 rfl 0 rfl ?_
  refine n_bipush dX1_init_48 (v := 60) (by decide) ?_
  refine n_naI (N' := 60) hb hR hF dX1_init_50 dX1_init_52 (by decide +kernel) fn_X1_30 (by decide) (by omega) (Nat.le_of_ble_eq_true rfl) (Nat.le_of_ble_eq_true rfl) (fun hR hF => ?_)
  exact n_vret dX1_init_55 rfl (Nat.le_of_ble_eq_true rfl) (Nat.le_of_ble_eq_true rfl)
def mX3_init : gM := (yX3_init, cX3_init, RX3, 1, none, 1, 20)
theorem dX3_init_0 : decode mX3_init.2.1 0 = .ok (.aload_n 0, 1) := by decide +kernel
theorem dX3_init_1 : decode mX3_init.2.1 1 = .ok (.invokespecial 3, 3) := by decide +kernel
theorem dX3_init_4 : decode mX3_init.2.1 4 = .ok (.aload_n 0, 1) := by decide +kernel
theorem dX3_init_5 : decode mX3_init.2.1 5 = .ok (.sipush 130, 3) := by decide +kernel
theorem dX3_init_8 : decode mX3_init.2.1 8 = .ok (.newarray .int, 2) := by decide +kernel
theorem dX3_init_10 : decode mX3_init.2.1 10 = .ok (.putfield 9, 3) := by decide +kernel
theorem dX3_init_13 : decode mX3_init.2.1 13 = .ok (.aload_n 0, 1) := by decide +kernel
theorem dX3_init_14 : decode mX3_init.2.1 14 = .ok (.sipush 130, 3) := by decide +kernel
theorem dX3_init_17 : decode mX3_init.2.1 17 = .ok (.newarray .int, 2) := by decide +kernel
theorem dX3_init_19 : decode mX3_init.2.1 19 = .ok (.putfield 15, 3) := by decide +kernel
theorem dX3_init_22 : decode mX3_init.2.1 22 = .ok (.aload_n 0, 1) := by decide +kernel
theorem dX3_init_23 : decode mX3_init.2.1 23 = .ok (.sipush 130, 3) := by decide +kernel
theorem dX3_init_26 : decode mX3_init.2.1 26 = .ok (.newarray .int, 2) := by decide +kernel
theorem dX3_init_28 : decode mX3_init.2.1 28 = .ok (.putfield 18, 3) := by decide +kernel
theorem dX3_init_31 : decode mX3_init.2.1 31 = .ok (.aload_n 0, 1) := by decide +kernel
theorem dX3_init_32 : decode mX3_init.2.1 32 = .ok (.sipush 130, 3) := by decide +kernel
theorem dX3_init_35 : decode mX3_init.2.1 35 = .ok (.newarray .int, 2) := by decide +kernel
theorem dX3_init_37 : decode mX3_init.2.1 37 = .ok (.putfield 21, 3) := by decide +kernel
theorem dX3_init_40 : decode mX3_init.2.1 40 = .ok (.aload_n 0, 1) := by decide +kernel
theorem dX3_init_41 : decode mX3_init.2.1 41 = .ok (.sipush 130, 3) := by decide +kernel
theorem dX3_init_44 : decode mX3_init.2.1 44 = .ok (.newarray .int, 2) := by decide +kernel
theorem dX3_init_46 : decode mX3_init.2.1 46 = .ok (.putfield 24, 3) := by decide +kernel
theorem dX3_init_49 : decode mX3_init.2.1 49 = .ok (.aload_n 0, 1) := by decide +kernel
theorem dX3_init_50 : decode mX3_init.2.1 50 = .ok (.iconst 4, 1) := by decide +kernel
theorem dX3_init_51 : decode mX3_init.2.1 51 = .ok (.bipush 60, 2) := by decide +kernel
theorem dX3_init_53 : decode mX3_init.2.1 53 = .ok (.multianewarray 27 2, 4) := by decide +kernel
theorem dX3_init_57 : decode mX3_init.2.1 57 = .ok (.putfield 29, 3) := by decide +kernel
theorem dX3_init_60 : decode mX3_init.2.1 60 = .ok (.aload_n 0, 1) := by decide +kernel
theorem dX3_init_61 : decode mX3_init.2.1 61 = .ok (.iconst 4, 1) := by decide +kernel
theorem dX3_init_62 : decode mX3_init.2.1 62 = .ok (.newarray .int, 2) := by decide +kernel
theorem dX3_init_64 : decode mX3_init.2.1 64 = .ok (.putfield 32, 3) := by decide +kernel
theorem dX3_init_67 : decode mX3_init.2.1 67 = .ok (.aload_n 0, 1) := by decide +kernel
theorem dX3_init_68 : decode mX3_init.2.1 68 = .ok (.ldc 35, 2) := by decide +kernel
theorem dX3_init_70 : decode mX3_init.2.1 70 = .ok (.putfield 36, 3) := by decide +kernel
theorem dX3_init_73 : decode mX3_init.2.1 73 = .ok (.aload_n 0, 1) := by decide +kernel
theorem dX3_init_74 : decode mX3_init.2.1 74 = .ok (.ldc 35, 2) := by decide +kernel
theorem dX3_init_76 : decode mX3_init.2.1 76 = .ok (.putfield 40, 3) := by decide +kernel
theorem dX3_init_79 : decode mX3_init.2.1 79 = .ok (.return_, 1) := by decide +kernel
theorem fn_X3_9 : nFp mX3_init 9 3 0 (.array .int) := ⟨RX3, TX3, 10, rfl, by decide, ux_3, (gm 149 (by decide +kernel) rfl), Or.inr ⟨rfl, rfl, rfl⟩, by decide +kernel, ⟨tyX3, tyX3_ok⟩, nmX3⟩
theorem fn_X3_15 : nFp mX3_init 15 3 1 (.array .int) := ⟨RX3, TX3, 10, rfl, by decide, ux_3, (gm 151 (by decide +kernel) rfl), Or.inr ⟨rfl, rfl, rfl⟩, by decide +kernel, ⟨tyX3, tyX3_ok⟩, nmX3⟩
theorem fn_X3_18 : nFp mX3_init 18 3 2 (.array .int) := ⟨RX3, TX3, 10, rfl, by decide, ux_3, (gm 153 (by decide +kernel) rfl), Or.inr ⟨rfl, rfl, rfl⟩, by decide +kernel, ⟨tyX3, tyX3_ok⟩, nmX3⟩
theorem fn_X3_21 : nFp mX3_init 21 3 3 (.array .int) := ⟨RX3, TX3, 10, rfl, by decide, ux_3, (gm 155 (by decide +kernel) rfl), Or.inr ⟨rfl, rfl, rfl⟩, by decide +kernel, ⟨tyX3, tyX3_ok⟩, nmX3⟩
theorem fn_X3_24 : nFp mX3_init 24 3 4 (.array .int) := ⟨RX3, TX3, 10, rfl, by decide, ux_3, (gm 157 (by decide +kernel) rfl), Or.inr ⟨rfl, rfl, rfl⟩, by decide +kernel, ⟨tyX3, tyX3_ok⟩, nmX3⟩
theorem fn_X3_29 : nFp mX3_init 29 3 5 (.array (.array .int)) := ⟨RX3, TX3, 10, rfl, by decide, ux_3, (gm 158 (by decide +kernel) rfl), Or.inr ⟨rfl, rfl, rfl⟩, by decide +kernel, ⟨tyX3, tyX3_ok⟩, nmX3⟩
theorem fn_X3_32 : nFp mX3_init 32 3 6 (.array .int) := ⟨RX3, TX3, 10, rfl, by decide, ux_3, (gm 159 (by decide +kernel) rfl), Or.inr ⟨rfl, rfl, rfl⟩, by decide +kernel, ⟨tyX3, tyX3_ok⟩, nmX3⟩
theorem fn_X3_36 : nFp mX3_init 36 3 8 .int := ⟨RX3, TX3, 10, rfl, by decide, ux_3, (gm 162 (by decide +kernel) rfl), Or.inl rfl, by decide +kernel, ⟨tyX3, tyX3_ok⟩, nmX3⟩
theorem fn_X3_40 : nFp mX3_init 40 3 9 .int := ⟨RX3, TX3, 10, rfl, by decide, ux_3, (gm 166 (by decide +kernel) rfl), Or.inl rfl, by decide +kernel, ⟨tyX3, tyX3_ok⟩, nmX3⟩
def tX3 (cy : Nat → ClassId) (b : Nat) : List va_E := .inr (3, (((((((((dX3).set 0 (.ref (b + 1 + 0))).set 1 (.ref (b + 1 + (0 + 1)))).set 2 (.ref (b + 1 + ((0 + 1) + 1)))).set 3 (.ref (b + 1 + (((0 + 1) + 1) + 1)))).set 4 (.ref (b + 1 + ((((0 + 1) + 1) + 1) + 1)))).set 5 (.ref (b + 1 + (((((0 + 1) + 1) + 1) + 1) + 1)))).set 6 (.ref (b + 1 + ((((((0 + 1) + 1) + 1) + 1) + 1) + 1 + 4)))).set 8 (.int (-1000000))).set 9 (.int (-1000000))) :: (((((((([] : List va_E) ++ [eI cy 130]) ++ [eI cy 130]) ++ [eI cy 130]) ++ [eI cy 130]) ++ [eI cy 130]) ++ nMA cy (b + 1 + (((((0 + 1) + 1) + 1) + 1) + 1) + 1) 4 60) ++ [eI cy 4])
theorem kX3 {E : gE} {Pm : List va_E} {b : Nat} (hb : Pm.length = b) (hB : b + 12 ≤ gNH) : nC E mX3_init 11 898 [.ref b] (Pm ++ [.inr (3, dX3)]) none (Pm ++ tX3 E.2.2.1 b) := by
  refine nC_of (by decide +kernel) rfl (Nat.le_of_ble_eq_true rfl) ?_
  show nG E mX3_init 11 898 0 [(0, .ref b)] [] (nO Pm 3 dX3 []) 0 0 none (nO Pm 3 ((((((((((dX3).set 0 (.ref (b + 1 + 0))).set 1 (.ref (b + 1 + (0 + 1)))).set 2 (.ref (b + 1 + ((0 + 1) + 1)))).set 3 (.ref (b + 1 + (((0 + 1) + 1) + 1)))).set 4 (.ref (b + 1 + ((((0 + 1) + 1) + 1) + 1)))).set 5 (.ref (b + 1 + (((((0 + 1) + 1) + 1) + 1) + 1)))).set 6 (.ref (b + 1 + ((((((0 + 1) + 1) + 1) + 1) + 1) + 1 + 4)))).set 8 (.int (-1000000))).set 9 (.int (-1000000))) (((((((([] : List va_E) ++ [eI E.2.2.1 130]) ++ [eI E.2.2.1 130]) ++ [eI E.2.2.1 130]) ++ [eI E.2.2.1 130]) ++ [eI E.2.2.1 130]) ++ nMA E.2.2.1 (b + 1 + (((((0 + 1) + 1) + 1) + 1) + 1) + 1) 4 60) ++ [eI E.2.2.1 4]))
  have hR : ([] : List va_E).length = 0 := rfl
  have hF : dX3.length = 10 := rfl
  refine n_aload_n dX3_init_0 rfl 0 rfl ?_
  refine n_objInit dX3_init_1 ⟨(gm 145 (by decide +kernel) rfl), gm_oi⟩ (Nat.le_of_ble_eq_true rfl) (Nat.le_of_ble_eq_true rfl) (Nat.le_of_ble_eq_true rfl) ?_
  refine n_aload_n dX3_init_4 rfl 0 rfl ?_
  refine n_sipush dX3_init_5 (v := 130) (by decide) ?_
  refine n_naI (N' := 130) hb hR hF dX3_init_8 dX3_init_10 (by decide +kernel) fn_X3_9 (by decide) (by omega) (Nat.le_of_ble_eq_true rfl) (Nat.le_of_ble_eq_true rfl) (fun hR hF => ?_)
  refine n_aload_n dX3_init_13 rfl 0 rfl ?_
  refine n_sipush dX3_init_14 (v := 130) (by decide) ?_
  refine n_naI (N' := 130) hb hR hF dX3_init_17 dX3_init_19 (by decide +kernel) fn_X3_15 (by decide) (by omega) (Nat.le_of_ble_eq_true rfl) (Nat.le_of_ble_eq_true rfl) (fun hR hF => ?_)
  refine n_aload_n dX3_init_22 rfl 0 rfl ?_
  refine n_sipush dX3_init_23 (v := 130) (by decide) ?_
  refine n_naI (N' := 130) hb hR hF dX3_init_26 dX3_init_28 (by decide +kernel) fn_X3_18 (by decide) (by omega) (Nat.le_of_ble_eq_true rfl) (Nat.le_of_ble_eq_true rfl) (fun hR hF => ?_)
  refine n_aload_n dX3_init_31 rfl 0 rfl ?_
  refine n_sipush dX3_init_32 (v := 130) (by decide) ?_
  refine n_naI (N' := 130) hb hR hF dX3_init_35 dX3_init_37 (by decide +kernel) fn_X3_21 (by decide) (by omega) (Nat.le_of_ble_eq_true rfl) (Nat.le_of_ble_eq_true rfl) (fun hR hF => ?_)
  refine n_aload_n dX3_init_40 rfl 0 rfl ?_
  refine n_sipush dX3_init_41 (v := 130) (by decide) ?_
  refine n_naI (N' := 130) hb hR hF dX3_init_44 dX3_init_46 (by decide +kernel) fn_X3_24 (by decide) (by omega) (Nat.le_of_ble_eq_true rfl) (Nat.le_of_ble_eq_true rfl) (fun hR hF => ?_)
  refine n_aload_n dX3_init_49 rfl 0 rfl ?_
  refine n_iconst dX3_init_50 (v := 4) (by decide) ?_
  refine n_bipush dX3_init_51 (v := 60) (by decide) ?_
  refine n_ma (N' := 4) (k0 := 60) hb hR hF dX3_init_53 dX3_init_57 (gm 146 (by decide +kernel) rfl) (by decide +kernel) fn_X3_29 (by decide) (by omega) (Nat.le_of_ble_eq_true rfl) (Nat.le_of_ble_eq_true rfl) (fun hR hF => ?_)
  refine n_aload_n dX3_init_60 rfl 0 rfl ?_
  refine n_iconst dX3_init_61 (v := 4) (by decide) ?_
  refine n_naI (N' := 4) hb hR hF dX3_init_62 dX3_init_64 (by decide +kernel) fn_X3_32 (by decide) (by omega) (Nat.le_of_ble_eq_true rfl) (Nat.le_of_ble_eq_true rfl) (fun hR hF => ?_)
  refine n_aload_n dX3_init_67 rfl 0 rfl ?_
  refine n_ldc dX3_init_68 (v := -1000000) (gm 148 (by decide +kernel) rfl) ?_
  refine n_fI hb hF dX3_init_70 fn_X3_36 (by decide) (fun hF => ?_)
  refine n_aload_n dX3_init_73 rfl 0 rfl ?_
  refine n_ldc dX3_init_74 (v := -1000000) (gm 148 (by decide +kernel) rfl) ?_
  refine n_fI hb hF dX3_init_76 fn_X3_40 (by decide) (fun hF => ?_)
  exact n_vret dX3_init_79 rfl (Nat.le_of_ble_eq_true rfl) (Nat.le_of_ble_eq_true rfl)
def mX4_init : gM := (yX4_init, cX4_init, RX4, 1, none, 1, 20)
theorem dX4_init_0 : decode mX4_init.2.1 0 = .ok (.aload_n 0, 1) := by decide +kernel
theorem dX4_init_1 : decode mX4_init.2.1 1 = .ok (.invokespecial 3, 3) := by decide +kernel
theorem dX4_init_4 : decode mX4_init.2.1 4 = .ok (.aload_n 0, 1) := by decide +kernel
theorem dX4_init_5 : decode mX4_init.2.1 5 = .ok (.bipush 60, 2) := by decide +kernel
theorem dX4_init_7 : decode mX4_init.2.1 7 = .ok (.bipush 48, 2) := by decide +kernel
theorem dX4_init_9 : decode mX4_init.2.1 9 = .ok (.multianewarray 11 2, 4) := by decide +kernel
theorem dX4_init_13 : decode mX4_init.2.1 13 = .ok (.putfield 13, 3) := by decide +kernel
theorem dX4_init_16 : decode mX4_init.2.1 16 = .ok (.aload_n 0, 1) := by decide +kernel
theorem dX4_init_17 : decode mX4_init.2.1 17 = .ok (.bipush 24, 2) := by decide +kernel
theorem dX4_init_19 : decode mX4_init.2.1 19 = .ok (.newarray .int, 2) := by decide +kernel
theorem dX4_init_21 : decode mX4_init.2.1 21 = .ok (.putfield 16, 3) := by decide +kernel
theorem dX4_init_24 : decode mX4_init.2.1 24 = .ok (.aload_n 0, 1) := by decide +kernel
theorem dX4_init_25 : decode mX4_init.2.1 25 = .ok (.bipush 48, 2) := by decide +kernel
theorem dX4_init_27 : decode mX4_init.2.1 27 = .ok (.newarray .int, 2) := by decide +kernel
theorem dX4_init_29 : decode mX4_init.2.1 29 = .ok (.putfield 20, 3) := by decide +kernel
theorem dX4_init_32 : decode mX4_init.2.1 32 = .ok (.aload_n 0, 1) := by decide +kernel
theorem dX4_init_33 : decode mX4_init.2.1 33 = .ok (.bipush 48, 2) := by decide +kernel
theorem dX4_init_35 : decode mX4_init.2.1 35 = .ok (.newarray .int, 2) := by decide +kernel
theorem dX4_init_37 : decode mX4_init.2.1 37 = .ok (.putfield 23, 3) := by decide +kernel
theorem dX4_init_40 : decode mX4_init.2.1 40 = .ok (.return_, 1) := by decide +kernel
theorem fn_X4_13 : nFp mX4_init 13 4 0 (.array (.array .int)) := ⟨RX4, TX4, 7, rfl, by decide, ux_4, (gm 332 (by decide +kernel) rfl), Or.inr ⟨rfl, rfl, rfl⟩, by decide +kernel, ⟨tyX4, tyX4_ok⟩, nmX4⟩
theorem fn_X4_16 : nFp mX4_init 16 4 4 (.array .int) := ⟨RX4, TX4, 7, rfl, by decide, ux_4, (gm 339 (by decide +kernel) rfl), Or.inr ⟨rfl, rfl, rfl⟩, by decide +kernel, ⟨tyX4, tyX4_ok⟩, nmX4⟩
theorem fn_X4_20 : nFp mX4_init 20 4 5 (.array .int) := ⟨RX4, TX4, 7, rfl, by decide, ux_4, (gm 340 (by decide +kernel) rfl), Or.inr ⟨rfl, rfl, rfl⟩, by decide +kernel, ⟨tyX4, tyX4_ok⟩, nmX4⟩
theorem fn_X4_23 : nFp mX4_init 23 4 6 (.array .int) := ⟨RX4, TX4, 7, rfl, by decide, ux_4, (gm 341 (by decide +kernel) rfl), Or.inr ⟨rfl, rfl, rfl⟩, by decide +kernel, ⟨tyX4, tyX4_ok⟩, nmX4⟩
def tX4 (cy : Nat → ClassId) (b : Nat) : List va_E := .inr (4, ((((dX4).set 0 (.ref (b + 1 + 0))).set 4 (.ref (b + 1 + (0 + 1 + 60)))).set 5 (.ref (b + 1 + ((0 + 1 + 60) + 1)))).set 6 (.ref (b + 1 + (((0 + 1 + 60) + 1) + 1)))) :: ((((([] : List va_E) ++ nMA cy (b + 1 + 0 + 1) 60 48) ++ [eI cy 24]) ++ [eI cy 48]) ++ [eI cy 48])
theorem kX4 {E : gE} {Pm : List va_E} {b : Nat} (hb : Pm.length = b) (hB : b + 65 ≤ gNH) : nC E mX4_init 64 3060 [.ref b] (Pm ++ [.inr (4, dX4)]) none (Pm ++ tX4 E.2.2.1 b) := by
  refine nC_of (by decide +kernel) rfl (Nat.le_of_ble_eq_true rfl) ?_
  show nG E mX4_init 64 3060 0 [(0, .ref b)] [] (nO Pm 4 dX4 []) 0 0 none (nO Pm 4 (((((dX4).set 0 (.ref (b + 1 + 0))).set 4 (.ref (b + 1 + (0 + 1 + 60)))).set 5 (.ref (b + 1 + ((0 + 1 + 60) + 1)))).set 6 (.ref (b + 1 + (((0 + 1 + 60) + 1) + 1)))) ((((([] : List va_E) ++ nMA E.2.2.1 (b + 1 + 0 + 1) 60 48) ++ [eI E.2.2.1 24]) ++ [eI E.2.2.1 48]) ++ [eI E.2.2.1 48]))
  have hR : ([] : List va_E).length = 0 := rfl
  have hF : dX4.length = 7 := rfl
  refine n_aload_n dX4_init_0 rfl 0 rfl ?_
  refine n_objInit dX4_init_1 ⟨(gm 330 (by decide +kernel) rfl), gm_oi⟩ (Nat.le_of_ble_eq_true rfl) (Nat.le_of_ble_eq_true rfl) (Nat.le_of_ble_eq_true rfl) ?_
  refine n_aload_n dX4_init_4 rfl 0 rfl ?_
  refine n_bipush dX4_init_5 (v := 60) (by decide) ?_
  refine n_bipush dX4_init_7 (v := 48) (by decide) ?_
  refine n_ma (N' := 60) (k0 := 48) hb hR hF dX4_init_9 dX4_init_13 (gm 331 (by decide +kernel) rfl) (by decide +kernel) fn_X4_13 (by decide) (by omega) (Nat.le_of_ble_eq_true rfl) (Nat.le_of_ble_eq_true rfl) (fun hR hF => ?_)
  refine n_aload_n dX4_init_16 rfl 0 rfl ?_
  refine n_bipush dX4_init_17 (v := 24) (by decide) ?_
  refine n_naI (N' := 24) hb hR hF dX4_init_19 dX4_init_21 (by decide +kernel) fn_X4_16 (by decide) (by omega) (Nat.le_of_ble_eq_true rfl) (Nat.le_of_ble_eq_true rfl) (fun hR hF => ?_)
  refine n_aload_n dX4_init_24 rfl 0 rfl ?_
  refine n_bipush dX4_init_25 (v := 48) (by decide) ?_
  refine n_naI (N' := 48) hb hR hF dX4_init_27 dX4_init_29 (by decide +kernel) fn_X4_20 (by decide) (by omega) (Nat.le_of_ble_eq_true rfl) (Nat.le_of_ble_eq_true rfl) (fun hR hF => ?_)
  refine n_aload_n dX4_init_32 rfl 0 rfl ?_
  refine n_bipush dX4_init_33 (v := 48) (by decide) ?_
  refine n_naI (N' := 48) hb hR hF dX4_init_35 dX4_init_37 (by decide +kernel) fn_X4_23 (by decide) (by omega) (Nat.le_of_ble_eq_true rfl) (Nat.le_of_ble_eq_true rfl) (fun hR hF => ?_)
  exact n_vret dX4_init_40 rfl (Nat.le_of_ble_eq_true rfl) (Nat.le_of_ble_eq_true rfl)

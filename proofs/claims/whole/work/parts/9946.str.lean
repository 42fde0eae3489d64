def mJ3_checkIndex_8e157 : gM := (yJ3_checkIndex_8e157, cJ3_checkIndex_8e157, RJ3, 3, (some .int), 0, 0)
theorem dJ3_checkIndex_8e157_0 : decode mJ3_checkIndex_8e157.2.1 0 = .ok (.iload_n 0, 1) := by decide +kernel
theorem dJ3_checkIndex_8e157_1 : decode mJ3_checkIndex_8e157.2.1 1 = .ok (.ifCond .lt 8, 3) := by decide +kernel
theorem dJ3_checkIndex_8e157_4 : decode mJ3_checkIndex_8e157.2.1 4 = .ok (.iload_n 0, 1) := by decide +kernel
theorem dJ3_checkIndex_8e157_5 : decode mJ3_checkIndex_8e157.2.1 5 = .ok (.iload_n 1, 1) := by decide +kernel
theorem dJ3_checkIndex_8e157_6 : decode mJ3_checkIndex_8e157.2.1 6 = .ok (.if_icmp .lt 10, 3) := by decide +kernel
theorem dJ3_checkIndex_8e157_9 : decode mJ3_checkIndex_8e157.2.1 9 = .ok (.aload_n 2, 1) := by decide +kernel
theorem dJ3_checkIndex_8e157_10 : decode mJ3_checkIndex_8e157.2.1 10 = .ok (.iload_n 0, 1) := by decide +kernel
theorem dJ3_checkIndex_8e157_11 : decode mJ3_checkIndex_8e157.2.1 11 = .ok (.iload_n 1, 1) := by decide +kernel
theorem dJ3_checkIndex_8e157_12 : decode mJ3_checkIndex_8e157.2.1 12 = .ok (.invokestatic 95, 3) := by decide +kernel
theorem dJ3_checkIndex_8e157_15 : decode mJ3_checkIndex_8e157.2.1 15 = .ok (.athrow, 1) := by decide +kernel
theorem dJ3_checkIndex_8e157_16 : decode mJ3_checkIndex_8e157.2.1 16 = .ok (.iload_n 0, 1) := by decide +kernel
theorem dJ3_checkIndex_8e157_17 : decode mJ3_checkIndex_8e157.2.1 17 = .ok (.ireturn, 1) := by decide +kernel
def mJ0_checkIndex_df160 : gM := (yJ0_checkIndex_df160, cJ0_checkIndex_df160, RJ0, 2, none, 1, 22)
theorem dJ0_checkIndex_df160_0 : decode mJ0_checkIndex_df160.2.1 0 = .ok (.iload_n 0, 1) := by decide +kernel
theorem dJ0_checkIndex_df160_1 : decode mJ0_checkIndex_df160.2.1 1 = .ok (.iload_n 1, 1) := by decide +kernel
theorem dJ0_checkIndex_df160_2 : decode mJ0_checkIndex_df160.2.1 2 = .ok (.getstatic 1053, 3) := by decide +kernel
theorem dJ0_checkIndex_df160_5 : decode mJ0_checkIndex_df160.2.1 5 = .ok (.invokestatic 1059, 3) := by decide +kernel
theorem dJ0_checkIndex_df160_8 : decode mJ0_checkIndex_df160.2.1 8 = .ok (.pop, 1) := by decide +kernel
theorem dJ0_checkIndex_df160_9 : decode mJ0_checkIndex_df160.2.1 9 = .ok (.return_, 1) := by decide +kernel
def mJ1_charAt_3b067 : gM := (yJ1_charAt_3b067, cJ1_charAt_3b067, RJ1, 2, (some .char), 2, 43)
theorem dJ1_charAt_3b067_0 : decode mJ1_charAt_3b067.2.1 0 = .ok (.iload_n 1, 1) := by decide +kernel
theorem dJ1_charAt_3b067_1 : decode mJ1_charAt_3b067.2.1 1 = .ok (.aload_n 0, 1) := by decide +kernel
theorem dJ1_charAt_3b067_2 : decode mJ1_charAt_3b067.2.1 2 = .ok (.arraylength, 1) := by decide +kernel
theorem dJ1_charAt_3b067_3 : decode mJ1_charAt_3b067.2.1 3 = .ok (.invokestatic 9, 3) := by decide +kernel
theorem dJ1_charAt_3b067_6 : decode mJ1_charAt_3b067.2.1 6 = .ok (.aload_n 0, 1) := by decide +kernel
theorem dJ1_charAt_3b067_7 : decode mJ1_charAt_3b067.2.1 7 = .ok (.iload_n 1, 1) := by decide +kernel
theorem dJ1_charAt_3b067_8 : decode mJ1_charAt_3b067.2.1 8 = .ok (.baload, 1) := by decide +kernel
theorem dJ1_charAt_3b067_9 : decode mJ1_charAt_3b067.2.1 9 = .ok (.sipush 255, 3) := by decide +kernel
theorem dJ1_charAt_3b067_12 : decode mJ1_charAt_3b067.2.1 12 = .ok (.iand, 1) := by decide +kernel
theorem dJ1_charAt_3b067_13 : decode mJ1_charAt_3b067.2.1 13 = .ok (.i2c, 1) := by decide +kernel
theorem dJ1_charAt_3b067_14 : decode mJ1_charAt_3b067.2.1 14 = .ok (.ireturn, 1) := by decide +kernel
def mJ0_isLatin1_aae02 : gM := (yJ0_isLatin1_aae02, cJ0_isLatin1_aae02, RJ0, 1, (some .boolean), 0, 0)
theorem dJ0_isLatin1_aae02_0 : decode mJ0_isLatin1_aae02.2.1 0 = .ok (.getstatic 38, 3) := by decide +kernel
theorem dJ0_isLatin1_aae02_3 : decode mJ0_isLatin1_aae02.2.1 3 = .ok (.ifCond .eq 14, 3) := by decide +kernel
theorem dJ0_isLatin1_aae02_6 : decode mJ0_isLatin1_aae02.2.1 6 = .ok (.aload_n 0, 1) := by decide +kernel
theorem dJ0_isLatin1_aae02_7 : decode mJ0_isLatin1_aae02.2.1 7 = .ok (.getfield 15, 3) := by decide +kernel
theorem dJ0_isLatin1_aae02_10 : decode mJ0_isLatin1_aae02.2.1 10 = .ok (.ifCond .ne 7, 3) := by decide +kernel
theorem dJ0_isLatin1_aae02_13 : decode mJ0_isLatin1_aae02.2.1 13 = .ok (.iconst 1, 1) := by decide +kernel
theorem dJ0_isLatin1_aae02_14 : decode mJ0_isLatin1_aae02.2.1 14 = .ok (.goto 4, 3) := by decide +kernel
theorem dJ0_isLatin1_aae02_17 : decode mJ0_isLatin1_aae02.2.1 17 = .ok (.iconst 0, 1) := by decide +kernel
theorem dJ0_isLatin1_aae02_18 : decode mJ0_isLatin1_aae02.2.1 18 = .ok (.ireturn, 1) := by decide +kernel
def mJ0_coder_7d493 : gM := (yJ0_coder_7d493, cJ0_coder_7d493, RJ0, 1, (some .byte), 0, 0)
theorem dJ0_coder_7d493_0 : decode mJ0_coder_7d493.2.1 0 = .ok (.getstatic 38, 3) := by decide +kernel
theorem dJ0_coder_7d493_3 : decode mJ0_coder_7d493.2.1 3 = .ok (.ifCond .eq 10, 3) := by decide +kernel
theorem dJ0_coder_7d493_6 : decode mJ0_coder_7d493.2.1 6 = .ok (.aload_n 0, 1) := by decide +kernel
theorem dJ0_coder_7d493_7 : decode mJ0_coder_7d493.2.1 7 = .ok (.getfield 15, 3) := by decide +kernel
theorem dJ0_coder_7d493_10 : decode mJ0_coder_7d493.2.1 10 = .ok (.goto 4, 3) := by decide +kernel
theorem dJ0_coder_7d493_13 : decode mJ0_coder_7d493.2.1 13 = .ok (.iconst 1, 1) := by decide +kernel
theorem dJ0_coder_7d493_14 : decode mJ0_coder_7d493.2.1 14 = .ok (.ireturn, 1) := by decide +kernel
def mJ0_length_8abf5 : gM := (yJ0_length_8abf5, cJ0_length_8abf5, RJ0, 1, (some .int), 1, 20)
theorem dJ0_length_8abf5_0 : decode mJ0_length_8abf5.2.1 0 = .ok (.aload_n 0, 1) := by decide +kernel
theorem dJ0_length_8abf5_1 : decode mJ0_length_8abf5.2.1 1 = .ok (.getfield 9, 3) := by decide +kernel
theorem dJ0_length_8abf5_4 : decode mJ0_length_8abf5.2.1 4 = .ok (.arraylength, 1) := by decide +kernel
theorem dJ0_length_8abf5_5 : decode mJ0_length_8abf5.2.1 5 = .ok (.aload_n 0, 1) := by decide +kernel
theorem dJ0_length_8abf5_6 : decode mJ0_length_8abf5.2.1 6 = .ok (.invokevirtual 335, 3) := by decide +kernel
theorem dJ0_length_8abf5_9 : decode mJ0_length_8abf5.2.1 9 = .ok (.ishr, 1) := by decide +kernel
theorem dJ0_length_8abf5_10 : decode mJ0_length_8abf5.2.1 10 = .ok (.ireturn, 1) := by decide +kernel
def mJ0_charAt_5068e : gM := (yJ0_charAt_5068e, cJ0_charAt_5068e, RJ0, 2, (some .char), 3, 64)
theorem dJ0_charAt_5068e_0 : decode mJ0_charAt_5068e.2.1 0 = .ok (.aload_n 0, 1) := by decide +kernel
theorem dJ0_charAt_5068e_1 : decode mJ0_charAt_5068e.2.1 1 = .ok (.invokevirtual 492, 3) := by decide +kernel
theorem dJ0_charAt_5068e_4 : decode mJ0_charAt_5068e.2.1 4 = .ok (.ifCond .eq 12, 3) := by decide +kernel
theorem dJ0_charAt_5068e_7 : decode mJ0_charAt_5068e.2.1 7 = .ok (.aload_n 0, 1) := by decide +kernel
theorem dJ0_charAt_5068e_8 : decode mJ0_charAt_5068e.2.1 8 = .ok (.getfield 9, 3) := by decide +kernel
theorem dJ0_charAt_5068e_11 : decode mJ0_charAt_5068e.2.1 11 = .ok (.iload_n 1, 1) := by decide +kernel
theorem dJ0_charAt_5068e_12 : decode mJ0_charAt_5068e.2.1 12 = .ok (.invokestatic 495, 3) := by decide +kernel
theorem dJ0_charAt_5068e_15 : decode mJ0_charAt_5068e.2.1 15 = .ok (.ireturn, 1) := by decide +kernel
theorem dJ0_charAt_5068e_16 : decode mJ0_charAt_5068e.2.1 16 = .ok (.aload_n 0, 1) := by decide +kernel
theorem dJ0_charAt_5068e_17 : decode mJ0_charAt_5068e.2.1 17 = .ok (.getfield 9, 3) := by decide +kernel
theorem dJ0_charAt_5068e_20 : decode mJ0_charAt_5068e.2.1 20 = .ok (.iload_n 1, 1) := by decide +kernel
theorem dJ0_charAt_5068e_21 : decode mJ0_charAt_5068e.2.1 21 = .ok (.invokestatic 498, 3) := by decide +kernel
theorem dJ0_charAt_5068e_24 : decode mJ0_charAt_5068e.2.1 24 = .ok (.ireturn, 1) := by decide +kernel
theorem oks_mJ0_checkIndex_df160_1059 : gOkS mJ0_checkIndex_df160 mJ3_checkIndex_8e157 1059 3 := ⟨List.forall_mem_cons.mpr ⟨(gm 223 (by decide +kernel) rfl), List.forall_mem_cons.mpr ⟨(gm 221 (by decide +kernel) rfl), List.forall_mem_cons.mpr ⟨(gm 222 (by decide +kernel) rfl), List.forall_mem_cons.mpr ⟨(gm 112 (by decide +kernel) rfl), fun _ h => absurd h List.not_mem_nil⟩⟩⟩⟩, by decide +kernel, by decide +kernel, by decide +kernel⟩
theorem oks_mJ1_charAt_3b067_9 : gOkS mJ1_charAt_3b067 mJ0_checkIndex_df160 9 2 := ⟨List.forall_mem_cons.mpr ⟨(gm 218 (by decide +kernel) rfl), List.forall_mem_cons.mpr ⟨(gm 216 (by decide +kernel) rfl), List.forall_mem_cons.mpr ⟨(gm 217 (by decide +kernel) rfl), List.forall_mem_cons.mpr ⟨(gm 110 (by decide +kernel) rfl), fun _ h => absurd h List.not_mem_nil⟩⟩⟩⟩, by decide +kernel, by decide +kernel, by decide +kernel⟩
theorem oks_mJ0_length_8abf5_335 : gOkV mJ0_length_8abf5 mJ0_coder_7d493 335 0 := ⟨List.forall_mem_cons.mpr ⟨(gm 202 (by decide +kernel) rfl), List.forall_mem_cons.mpr ⟨(gm 199 (by decide +kernel) rfl), List.forall_mem_cons.mpr ⟨(gm 200 (by decide +kernel) rfl), List.forall_mem_cons.mpr ⟨(gm 201 (by decide +kernel) rfl), List.forall_mem_cons.mpr ⟨(gm 110 (by decide +kernel) rfl), fun _ h => absurd h List.not_mem_nil⟩⟩⟩⟩⟩, by decide +kernel, by decide +kernel, by decide +kernel⟩
theorem oks_mJ0_charAt_5068e_492 : gOkV mJ0_charAt_5068e mJ0_isLatin1_aae02 492 0 := ⟨List.forall_mem_cons.mpr ⟨(gm 212 (by decide +kernel) rfl), List.forall_mem_cons.mpr ⟨(gm 209 (by decide +kernel) rfl), List.forall_mem_cons.mpr ⟨(gm 210 (by decide +kernel) rfl), List.forall_mem_cons.mpr ⟨(gm 211 (by decide +kernel) rfl), List.forall_mem_cons.mpr ⟨(gm 110 (by decide +kernel) rfl), fun _ h => absurd h List.not_mem_nil⟩⟩⟩⟩⟩, by decide +kernel, by decide +kernel, by decide +kernel⟩
theorem oks_mJ0_charAt_5068e_495 : gOkS mJ0_charAt_5068e mJ1_charAt_3b067 495 2 := ⟨List.forall_mem_cons.mpr ⟨(gm 215 (by decide +kernel) rfl), List.forall_mem_cons.mpr ⟨(gm 213 (by decide +kernel) rfl), List.forall_mem_cons.mpr ⟨(gm 214 (by decide +kernel) rfl), List.forall_mem_cons.mpr ⟨(gm 111 (by decide +kernel) rfl), fun _ h => absurd h List.not_mem_nil⟩⟩⟩⟩, by decide +kernel, by decide +kernel, by decide +kernel⟩
theorem n_i2c {E : gE} {M : gM} {K N kc nc pc : Nat} {lv : List (Nat × Value)} {st : List Value} {Mm M' : List va_E} {r : Option Value} {x y : Int32} (hd : decode M.2.1 pc = .ok (.i2c, 1)) (hv : (x.toUInt32 % 65536).toInt32 = y) (k : nG E M K N (pc + 1) lv (.int y :: st) Mm kc nc r M') : nG E M K N pc lv (.int x :: st) Mm kc nc r M' :=
  fun p e R s m args below meth c H locs ls F hP hS hl => lv_i2c F.1 F.2.1 hd hv (k p e R s m args below meth c H locs ls F hP hS hl)
section NS
variable {E : gE} {Mm : List va_E}
theorem kJ3 {i n : Int32} {w : Value} (h0 : ¬ i < 0) (h1 : i < n) (hw : w.category = 1) : nC E mJ3_checkIndex_8e157 0 0 [.int i, .int n, w] Mm (some (.int i)) Mm :=
  nC_of (by decide +kernel) rfl (by cases w <;> first | exact Nat.le_of_ble_eq_true rfl | exact absurd hw (by simp [Value.category])) (n_iload_n dJ3_checkIndex_8e157_0 rfl 0 rfl (n_if_lt dJ3_checkIndex_8e157_1 rfl (fun h => absurd h h0) (fun _ => n_iload_n dJ3_checkIndex_8e157_4 rfl 0 rfl (n_iload_n dJ3_checkIndex_8e157_5 rfl 1 rfl (n_icmp_lt dJ3_checkIndex_8e157_6 rfl (fun _ => n_iload_n dJ3_checkIndex_8e157_16 rfl 0 rfl (n_zret dJ3_checkIndex_8e157_17 rfl rfl)) (fun h => absurd h1 h))))))
theorem kJ0c {i n : Int32} (h0 : ¬ i < 0) (h1 : i < n) : nC E mJ0_checkIndex_df160 0 0 [.int i, .int n] Mm none Mm :=
  nC_of (by decide +kernel) rfl (Nat.le_of_ble_eq_true rfl) (n_iload_n dJ0_checkIndex_df160_0 rfl 0 rfl (n_iload_n dJ0_checkIndex_df160_1 rfl 1 rfl (n_getsF dJ0_checkIndex_df160_2 (gm 219 (by decide +kernel) rfl) (fun w hw => n_callS (as := [.int i, .int n, w]) (kJ3 h0 h1 hw) dJ0_checkIndex_df160_5 oks_mJ0_checkIndex_df160_1059 (Nat.le_of_ble_eq_true rfl) (Nat.le_of_ble_eq_true rfl) (Nat.le_of_ble_eq_true rfl) (n_pop dJ0_checkIndex_df160_8 rfl (n_vret dJ0_checkIndex_df160_9 rfl (Nat.le_of_ble_eq_true rfl) (Nat.le_of_ble_eq_true rfl)))))))
/-- a letter of the words -/
theorem nBy_c : ∀ i, i < 66 → (((nBy.getD i 0) &&& 255).toUInt32 % 65536).toInt32 = nBy.getD i 0 ∧ narrow .char (.int (nBy.getD i 0)) = .int (nBy.getD i 0) := by decide +kernel
theorem nIx : ∀ i, i < 66 → ¬ nI i < 0 ∧ nI i < 66 ∧ (nI i).toNatClampNeg = i ∧ ¬ (nI i < 0 ∨ 66 ≤ (nI i).toNatClampNeg) := by decide +kernel
theorem kJ1 {i : Nat} (hi : i < 66) : nC E mJ1_charAt_3b067 0 0 [.ref 238, .int (nI i)] Mm (some (.int (nBy.getD i 0))) Mm := by
  obtain ⟨g1, g2, g3, g4⟩ := nIx i hi
  obtain ⟨c1, c2⟩ := nBy_c i hi
  refine nC_of (by decide +kernel) rfl (Nat.le_of_ble_eq_true rfl) (n_iload_n dJ1_charAt_3b067_0 rfl 1 rfl (n_aload_n dJ1_charAt_3b067_1 rfl 0 rfl (n_slen dJ1_charAt_3b067_2 (n_callS (as := [.int (nI i), .int 66]) (kJ0c g1 g2) dJ1_charAt_3b067_3 oks_mJ1_charAt_3b067_9 (Nat.le_of_ble_eq_true rfl) (Nat.le_of_ble_eq_true rfl) (Nat.le_of_ble_eq_true rfl) (n_aload_n dJ1_charAt_3b067_6 rfl 0 rfl (n_iload_n dJ1_charAt_3b067_7 rfl 1 rfl (n_sbld dJ1_charAt_3b067_8 g4 (n_sipush dJ1_charAt_3b067_9 (v := 255) (by decide) (n_iand dJ1_charAt_3b067_12 (n_i2c dJ1_charAt_3b067_13 (y := nBy.getD i 0) ?_ (n_zret dJ1_charAt_3b067_14 rfl c2)))))))))))
  rw [g3]; exact c1
theorem kJ0l : nC E mJ0_isLatin1_aae02 0 0 [.ref 237] Mm (some (.int 1)) Mm :=
  nC_of (by decide +kernel) rfl (Nat.le_of_ble_eq_true rfl) (n_gets1 dJ0_isLatin1_aae02_0 (gm 203 (by decide +kernel) rfl) (n_if_eq dJ0_isLatin1_aae02_3 rfl (fun h => absurd h (by decide)) (fun _ => n_aload_n dJ0_isLatin1_aae02_6 rfl 0 rfl (n_scod dJ0_isLatin1_aae02_7 (gm 1940 (by decide +kernel) rfl) (n_if_ne dJ0_isLatin1_aae02_10 rfl (fun h => absurd rfl h) (fun _ => n_iconst dJ0_isLatin1_aae02_13 (v := 1) rfl (n_goto dJ0_isLatin1_aae02_14 rfl (n_zret dJ0_isLatin1_aae02_18 rfl rfl))))))))
theorem kJ0o : nC E mJ0_coder_7d493 0 0 [.ref 237] Mm (some (.int 0)) Mm :=
  nC_of (by decide +kernel) rfl (Nat.le_of_ble_eq_true rfl) (n_gets1 dJ0_coder_7d493_0 (gm 203 (by decide +kernel) rfl) (n_if_eq dJ0_coder_7d493_3 rfl (fun h => absurd h (by decide)) (fun _ => n_aload_n dJ0_coder_7d493_6 rfl 0 rfl (n_scod dJ0_coder_7d493_7 (gm 1940 (by decide +kernel) rfl) (n_goto dJ0_coder_7d493_10 rfl (n_zret dJ0_coder_7d493_14 rfl rfl))))))
theorem kJ0n : nC E mJ0_length_8abf5 0 0 [.ref 237] Mm (some (.int 66)) Mm :=
  nC_of (by decide +kernel) rfl (Nat.le_of_ble_eq_true rfl) (n_aload_n dJ0_length_8abf5_0 rfl 0 rfl (n_sval dJ0_length_8abf5_1 (gm 1939 (by decide +kernel) rfl) (n_slen dJ0_length_8abf5_4 (n_aload_n dJ0_length_8abf5_5 rfl 0 rfl (n_callT (as := []) kJ0o dJ0_length_8abf5_6 rfl oks_mJ0_length_8abf5_335 (Nat.le_of_ble_eq_true rfl) (Nat.le_of_ble_eq_true rfl) (Nat.le_of_ble_eq_true rfl) (n_ishr dJ0_length_8abf5_9 (n_zret (v := 66) dJ0_length_8abf5_10 rfl rfl)))))))
theorem kJ0a {i : Nat} (hi : i < 66) : nC E mJ0_charAt_5068e 0 0 [.ref 237, .int (nI i)] Mm (some (.int (nBy.getD i 0))) Mm :=
  nC_of (by decide +kernel) rfl (Nat.le_of_ble_eq_true rfl) (n_aload_n dJ0_charAt_5068e_0 rfl 0 rfl (n_callT (as := []) kJ0l dJ0_charAt_5068e_1 rfl oks_mJ0_charAt_5068e_492 (Nat.le_of_ble_eq_true rfl) (Nat.le_of_ble_eq_true rfl) (Nat.le_of_ble_eq_true rfl) (n_if_eq dJ0_charAt_5068e_4 rfl (fun h => absurd h (by decide)) (fun _ => n_aload_n dJ0_charAt_5068e_7 rfl 0 rfl (n_sval dJ0_charAt_5068e_8 (gm 1939 (by decide +kernel) rfl) (n_iload_n dJ0_charAt_5068e_11 rfl 1 rfl (n_callS (as := [.ref 238, .int (nI i)]) (kJ1 hi) dJ0_charAt_5068e_12 oks_mJ0_charAt_5068e_495 (Nat.le_of_ble_eq_true rfl) (Nat.le_of_ble_eq_true rfl) (Nat.le_of_ble_eq_true rfl) (n_zret dJ0_charAt_5068e_15 rfl (nBy_c i hi).2))))))))
theorem kX6w {p1 p2 : Int32} : nC E mX6_withLetter 0 0 [.int p1, .int p2] Mm (some (.int (27 * p1 + (p2 - 97 + 1)))) Mm :=
  nC_of (by decide +kernel) rfl (Nat.le_of_ble_eq_true rfl) (n_bipush dX6_withLetter_0 (v := 27) rfl (n_iload_n dX6_withLetter_2 rfl 0 rfl (n_imul dX6_withLetter_3 (n_iload_n dX6_withLetter_4 rfl 1 rfl (n_bipush dX6_withLetter_5 (v := 97) rfl (n_isub dX6_withLetter_7 (n_iconst dX6_withLetter_8 (v := 1) rfl (n_iadd dX6_withLetter_9 (n_iadd dX6_withLetter_10 (n_zret dX6_withLetter_11 rfl rfl))))))))))
end NS

def mX6_init : gM := (yX6_init, cX6_init, RX6, 4, none, 4, 85)
theorem dX6_init_0 : decode mX6_init.2.1 0 = .ok (.aload_n 0, 1) := by decide +kernel
theorem dX6_init_1 : decode mX6_init.2.1 1 = .ok (.invokespecial 3, 3) := by decide +kernel
theorem dX6_init_4 : decode mX6_init.2.1 4 = .ok (.aload_n 0, 1) := by decide +kernel
theorem dX6_init_5 : decode mX6_init.2.1 5 = .ok (.sipush 1200, 3) := by decide +kernel
theorem dX6_init_8 : decode mX6_init.2.1 8 = .ok (.newarray .byte, 2) := by decide +kernel
theorem dX6_init_10 : decode mX6_init.2.1 10 = .ok (.putfield 11, 3) := by decide +kernel
theorem dX6_init_13 : decode mX6_init.2.1 13 = .ok (.aload_n 0, 1) := by decide +kernel
theorem dX6_init_14 : decode mX6_init.2.1 14 = .ok (.bipush 12, 2) := by decide +kernel
theorem dX6_init_16 : decode mX6_init.2.1 16 = .ok (.newarray .int, 2) := by decide +kernel
theorem dX6_init_18 : decode mX6_init.2.1 18 = .ok (.putfield 15, 3) := by decide +kernel
theorem dX6_init_21 : decode mX6_init.2.1 21 = .ok (.aload_n 0, 1) := by decide +kernel
theorem dX6_init_22 : decode mX6_init.2.1 22 = .ok (.new 19, 3) := by decide +kernel
theorem dX6_init_25 : decode mX6_init.2.1 25 = .ok (.dup, 1) := by decide +kernel
theorem dX6_init_26 : decode mX6_init.2.1 26 = .ok (.invokespecial 21, 3) := by decide +kernel
theorem dX6_init_29 : decode mX6_init.2.1 29 = .ok (.putfield 22, 3) := by decide +kernel
theorem dX6_init_32 : decode mX6_init.2.1 32 = .ok (.aload_n 0, 1) := by decide +kernel
theorem dX6_init_33 : decode mX6_init.2.1 33 = .ok (.ldc 26, 2) := by decide +kernel
theorem dX6_init_35 : decode mX6_init.2.1 35 = .ok (.putfield 27, 3) := by decide +kernel
theorem dX6_init_38 : decode mX6_init.2.1 38 = .ok (.iconst 0, 1) := by decide +kernel
theorem dX6_init_39 : decode mX6_init.2.1 39 = .ok (.istore_n 1, 1) := by decide +kernel
theorem dX6_init_40 : decode mX6_init.2.1 40 = .ok (.iconst 0, 1) := by decide +kernel
theorem dX6_init_41 : decode mX6_init.2.1 41 = .ok (.istore_n 2, 1) := by decide +kernel
theorem dX6_init_42 : decode mX6_init.2.1 42 = .ok (.iconst 0, 1) := by decide +kernel
theorem dX6_init_43 : decode mX6_init.2.1 43 = .ok (.istore_n 3, 1) := by decide +kernel
theorem dX6_init_44 : decode mX6_init.2.1 44 = .ok (.iload_n 3, 1) := by decide +kernel
theorem dX6_init_45 : decode mX6_init.2.1 45 = .ok (.ldc 31, 2) := by decide +kernel
theorem dX6_init_47 : decode mX6_init.2.1 47 = .ok (.invokevirtual 33, 3) := by decide +kernel
theorem dX6_init_50 : decode mX6_init.2.1 50 = .ok (.if_icmp .ge 52, 3) := by decide +kernel
theorem dX6_init_53 : decode mX6_init.2.1 53 = .ok (.iload_n 1, 1) := by decide +kernel
theorem dX6_init_54 : decode mX6_init.2.1 54 = .ok (.bipush 12, 2) := by decide +kernel
theorem dX6_init_56 : decode mX6_init.2.1 56 = .ok (.if_icmp .ge 46, 3) := by decide +kernel
theorem dX6_init_59 : decode mX6_init.2.1 59 = .ok (.ldc 31, 2) := by decide +kernel
theorem dX6_init_61 : decode mX6_init.2.1 61 = .ok (.iload_n 3, 1) := by decide +kernel
theorem dX6_init_62 : decode mX6_init.2.1 62 = .ok (.invokevirtual 39, 3) := by decide +kernel
theorem dX6_init_65 : decode mX6_init.2.1 65 = .ok (.bipush 32, 2) := by decide +kernel
theorem dX6_init_67 : decode mX6_init.2.1 67 = .ok (.if_icmp .ne 18, 3) := by decide +kernel
theorem dX6_init_70 : decode mX6_init.2.1 70 = .ok (.aload_n 0, 1) := by decide +kernel
theorem dX6_init_71 : decode mX6_init.2.1 71 = .ok (.getfield 15, 3) := by decide +kernel
theorem dX6_init_74 : decode mX6_init.2.1 74 = .ok (.iload_n 1, 1) := by decide +kernel
theorem dX6_init_75 : decode mX6_init.2.1 75 = .ok (.iload_n 2, 1) := by decide +kernel
theorem dX6_init_76 : decode mX6_init.2.1 76 = .ok (.iastore, 1) := by decide +kernel
theorem dX6_init_77 : decode mX6_init.2.1 77 = .ok (.iinc 1 1, 3) := by decide +kernel
theorem dX6_init_80 : decode mX6_init.2.1 80 = .ok (.iconst 0, 1) := by decide +kernel
theorem dX6_init_81 : decode mX6_init.2.1 81 = .ok (.istore_n 2, 1) := by decide +kernel
theorem dX6_init_82 : decode mX6_init.2.1 82 = .ok (.goto 14, 3) := by decide +kernel
theorem dX6_init_85 : decode mX6_init.2.1 85 = .ok (.iload_n 2, 1) := by decide +kernel
theorem dX6_init_86 : decode mX6_init.2.1 86 = .ok (.ldc 31, 2) := by decide +kernel
theorem dX6_init_88 : decode mX6_init.2.1 88 = .ok (.iload_n 3, 1) := by decide +kernel
theorem dX6_init_89 : decode mX6_init.2.1 89 = .ok (.invokevirtual 39, 3) := by decide +kernel
theorem dX6_init_92 : decode mX6_init.2.1 92 = .ok (.invokestatic 43, 3) := by decide +kernel
theorem dX6_init_95 : decode mX6_init.2.1 95 = .ok (.istore_n 2, 1) := by decide +kernel
theorem dX6_init_96 : decode mX6_init.2.1 96 = .ok (.iinc 3 1, 3) := by decide +kernel
theorem dX6_init_99 : decode mX6_init.2.1 99 = .ok (.goto (-55), 3) := by decide +kernel
theorem dX6_init_102 : decode mX6_init.2.1 102 = .ok (.return_, 1) := by decide +kernel
theorem fn_X6_11 : nFp mX6_init 11 6 0 (.array .byte) := ⟨RX6, TX6, 10, rfl, by decide, ux_6, (gm 246 (by decide +kernel) rfl), Or.inr ⟨rfl, rfl, rfl⟩, by decide +kernel, ⟨tyX6, tyX6_ok⟩, nmX6⟩
theorem fn_X6_15 : nFp mX6_init 15 6 2 (.array .int) := ⟨RX6, TX6, 10, rfl, by decide, ux_6, (gm 249 (by decide +kernel) rfl), Or.inr ⟨rfl, rfl, rfl⟩, by decide +kernel, ⟨tyX6, tyX6_ok⟩, nmX6⟩
theorem fn_X6_22 : nFp mX6_init 22 6 3 (.object "LinkageCurves$Linkage") := ⟨RX6, TX6, 10, rfl, by decide, ux_6, (gm 250 (by decide +kernel) rfl), Or.inl rfl, by decide +kernel, ⟨tyX6, tyX6_ok⟩, nmX6⟩
theorem fn_X6_27 : nFp mX6_init 27 6 9 .int := ⟨RX6, TX6, 10, rfl, by decide, ux_6, (gm 256 (by decide +kernel) rfl), Or.inl rfl, by decide +kernel, ⟨tyX6, tyX6_ok⟩, nmX6⟩
theorem okc_mX6_init_21 : nOk mX6_init mX3_init 21 11 898 := ⟨List.forall_mem_cons.mpr ⟨(gm 144 (by decide +kernel) rfl), List.forall_mem_cons.mpr ⟨(gm 143 (by decide +kernel) rfl), List.forall_mem_cons.mpr ⟨(gm 109 (by decide +kernel) rfl), fun _ h => absurd h List.not_mem_nil⟩⟩⟩, Or.inr (by decide +kernel), by decide +kernel, by decide +kernel, by decide +kernel, rfl, rfl⟩
theorem oks_mX6_init_33 : gOkV mX6_init mJ0_length_8abf5 33 0 := ⟨List.forall_mem_cons.mpr ⟨(gm 198 (by decide +kernel) rfl), List.forall_mem_cons.mpr ⟨(gm 195 (by decide +kernel) rfl), List.forall_mem_cons.mpr ⟨(gm 196 (by decide +kernel) rfl), List.forall_mem_cons.mpr ⟨(gm 197 (by decide +kernel) rfl), List.forall_mem_cons.mpr ⟨(gm 110 (by decide +kernel) rfl), fun _ h => absurd h List.not_mem_nil⟩⟩⟩⟩⟩, by decide +kernel, by decide +kernel, by decide +kernel⟩
theorem oks_mX6_init_39 : gOkV mX6_init mJ0_charAt_5068e 39 1 := ⟨List.forall_mem_cons.mpr ⟨(gm 208 (by decide +kernel) rfl), List.forall_mem_cons.mpr ⟨(gm 205 (by decide +kernel) rfl), List.forall_mem_cons.mpr ⟨(gm 206 (by decide +kernel) rfl), List.forall_mem_cons.mpr ⟨(gm 207 (by decide +kernel) rfl), List.forall_mem_cons.mpr ⟨(gm 110 (by decide +kernel) rfl), fun _ h => absurd h List.not_mem_nil⟩⟩⟩⟩⟩, by decide +kernel, by decide +kernel, by decide +kernel⟩
theorem oks_mX6_init_43 : gOkS mX6_init mX6_withLetter 43 2 := ⟨List.forall_mem_cons.mpr ⟨(gm 245 (by decide +kernel) rfl), List.forall_mem_cons.mpr ⟨(gm 243 (by decide +kernel) rfl), List.forall_mem_cons.mpr ⟨(gm 244 (by decide +kernel) rfl), List.forall_mem_cons.mpr ⟨(gm 108 (by decide +kernel) rfl), fun _ h => absurd h List.not_mem_nil⟩⟩⟩⟩, by decide +kernel, by decide +kernel, by decide +kernel⟩
/-- the words' codes: from letter i of them, word w, its code so far -/
def wlp (i w : Nat) (co : Int32) (f : Nat → Int32) : Nat → (Nat → Int32)
  | 0 => f
  | n + 1 => if i < 66 ∧ w < 12 then (if nBy.getD i 0 = 32 then wlp (i + 1) (w + 1) 0 (upd f w co) n else wlp (i + 1) w (27 * co + (nBy.getD i 0 - 97 + 1)) f n) else f
def fWd : Nat → Int32 := wlp 0 0 0 (fun _ => 0) 67
theorem fWd_ok : ∀ w, w < 12 → fWd w = nI (c27 (WL w)) := by decide +kernel
def nWw (Pm : List va_E) (cy : Nat → ClassId) (b : Nat) (f : Nat → Int32) : List va_E := nO Pm 6 ((((dX6.set 0 (.ref (b + 1 + 0))).set 2 (.ref (b + 1 + (0 + 1)))).set 3 (.ref (b + 1 + (0 + 1 + 1)))).set 9 (.int (-1000000))) ((([] ++ [eB cy 1200]) ++ [.inl (cy 0, 12, .inl f)]) ++ tX3 cy (b + 1 + (0 + 1 + 1)))
theorem nWw_get {Pm : List va_E} {cy : Nat → ClassId} {b : Nat} {f : Nat → Int32} (hb : Pm.length = b) : (nWw Pm cy b f)[b + 1 + (0 + 1)]? = some (.inl (cy 0, 12, .inl f)) := by
  subst hb
  unfold nWw nO
  rw [List.getElem?_append_right (by omega), show Pm.length + 1 + (0 + 1) - Pm.length = 2 by omega]
  rfl
theorem nWw_set {Pm : List va_E} {cy : Nat → ClassId} {b : Nat} {f f' : Nat → Int32} (hb : Pm.length = b) : (nWw Pm cy b f).set (b + 1 + (0 + 1)) (.inl (cy 0, 12, .inl f')) = nWw Pm cy b f' := by
  subst hb
  unfold nWw nO
  rw [List.set_append, if_neg (by omega), show Pm.length + 1 + (0 + 1) - Pm.length = 2 by omega]
  rfl
theorem nIy : ∀ i, i ≤ 66 → nI i + Int32.ofInt 1 = nI (i + 1) ∧ ((66 ≤ nI i) ↔ 66 ≤ i) := by decide +kernel
theorem nIw : ∀ w, w ≤ 12 → ((12 ≤ nI w) ↔ 12 ≤ w) ∧ (w < 12 → (nI w).toNatClampNeg = w ∧ ¬ (nI w < 0 ∨ 12 ≤ (nI w).toNatClampNeg)) := by decide +kernel
theorem kX6l {E : gE} {Pm : List va_E} {b K N kc nc : Nat} (hb : Pm.length = b) (g1 : kc ≤ K) (g2 : nc ≤ N) : ∀ (n i w : Nat) (co : Int32) (f : Nat → Int32), i ≤ 66 → w ≤ 12 → 66 < i + n → nG E mX6_init K N 44 [(3, .int (nI i)), (2, .int co), (1, .int (nI w)), (0, .ref b)] [] (nWw Pm E.2.2.1 b f) kc nc none (nWw Pm E.2.2.1 b (wlp i w co f n))
  | 0, i, w, co, f, hi, hw, hn => by omega
  | n + 1, i, w, co, f, hi, hw, hn => by
    obtain ⟨a1, a2⟩ := nIy i hi
    obtain ⟨b1, b2⟩ := nIw w hw
    refine n_iload_n dX6_init_44 rfl 0 rfl (n_ldcS dX6_init_45 rfl (n_callT (as := []) kJ0n dX6_init_47 rfl oks_mX6_init_33 (Nat.le_of_ble_eq_true rfl) g1 g2 (n_icmp_ge dX6_init_50 rfl (fun h => ?_) (fun h => ?_))))
    · rw [wlp, if_neg (fun q => absurd (a2.mp h) (by omega))]
      exact n_vret dX6_init_102 rfl g1 g2
    · have hi' : i < 66 := Nat.lt_of_not_le fun q => h (a2.mpr q)
      refine n_iload_n dX6_init_53 rfl 2 rfl (n_bipush dX6_init_54 (v := 12) rfl (n_icmp_ge dX6_init_56 rfl (fun h => ?_) (fun h => ?_)))
      · rw [wlp, if_neg (fun q => absurd (b1.mp h) (by omega))]
        exact n_vret dX6_init_102 rfl g1 g2
      · have hw' : w < 12 := Nat.lt_of_not_le fun q => h (b1.mpr q)
        obtain ⟨w1, w2⟩ := b2 hw'
        obtain ⟨v1, -⟩ := nIy w (by omega)
        rw [wlp, if_pos ⟨hi', hw'⟩]
        refine n_ldcS dX6_init_59 rfl (n_iload_n dX6_init_61 rfl 0 rfl (n_callT (as := [.int (nI i)]) (kJ0a hi') dX6_init_62 rfl oks_mX6_init_39 (Nat.le_of_ble_eq_true rfl) g1 g2 (n_bipush dX6_init_65 (v := 32) rfl (n_icmp_ne dX6_init_67 rfl (fun h => ?_) (fun h => ?_)))))
        · rw [if_neg h]
          exact n_iload_n dX6_init_85 rfl 1 rfl (n_ldcS dX6_init_86 rfl (n_iload_n dX6_init_88 rfl 0 rfl (n_callT (as := [.int (nI i)]) (st := [.int co]) (kJ0a hi') dX6_init_89 rfl oks_mX6_init_39 (Nat.le_of_ble_eq_true rfl) g1 g2 (n_callS (as := [.int co, .int (nBy.getD i 0)]) kX6w dX6_init_92 oks_mX6_init_43 (Nat.le_of_ble_eq_true rfl) g1 g2 (n_istore_n dX6_init_95 rfl (by decide) rfl (n_iinc dX6_init_96 (j := 1) rfl a1 (by decide) rfl (n_goto dX6_init_99 rfl (kX6l hb g1 g2 n (i + 1) w _ f (by omega) hw (by omega)))))))))
        · rw [if_pos h]
          refine n_aload_n dX6_init_70 rfl 3 rfl (n_get dX6_init_71 (nO_get hb) fl_RX6_15 (v := .ref (b + 1 + (0 + 1))) rfl (n_iload_n dX6_init_74 rfl 2 rfl (n_iload_n dX6_init_75 rfl 1 rfl (n_iast dX6_init_76 (nWw_get hb) w2 (nWw_set hb) (n_iinc dX6_init_77 (j := 2) rfl v1 (by decide) rfl (n_iconst dX6_init_80 (v := 0) rfl (n_istore_n dX6_init_81 rfl (by decide) rfl (n_goto dX6_init_82 rfl (n_iinc dX6_init_96 (j := 2) rfl a1 (by decide) rfl (n_goto dX6_init_99 rfl ?_))))))))))
          rw [w1]
          exact kX6l hb g1 g2 n (i + 1) (w + 1) 0 _ (by omega) (by omega) (by omega)
def tX6 (cy : Nat → ClassId) (b : Nat) : List va_E := .inr (6, (((dX6.set 0 (.ref (b + 1 + 0))).set 2 (.ref (b + 1 + (0 + 1)))).set 3 (.ref (b + 1 + (0 + 1 + 1)))).set 9 (.int (-1000000))) :: ((([] ++ [eB cy 1200]) ++ [.inl (cy 0, 12, .inl fWd)]) ++ tX3 cy (b + 1 + (0 + 1 + 1)))
theorem kX6 {E : gE} {Pm : List va_E} {b : Nat} (hb : Pm.length = b) (hB : b + 15 ≤ gNH) : nC E mX6_init 14 2120 [.ref b] (Pm ++ [.inr (6, dX6)]) none (Pm ++ tX6 E.2.2.1 b) := by
  refine nC_of (by decide +kernel) rfl (Nat.le_of_ble_eq_true rfl) ?_
  show nG E mX6_init 14 2120 0 [(0, .ref b)] [] (nO Pm 6 dX6 []) 0 0 none (nWw Pm E.2.2.1 b fWd)
  have hR : ([] : List va_E).length = 0 := rfl
  have hF : dX6.length = 10 := rfl
  refine n_aload_n dX6_init_0 rfl 0 rfl (n_objInit dX6_init_1 ⟨(gm 139 (by decide +kernel) rfl), gm_oi⟩ (Nat.le_of_ble_eq_true rfl) (Nat.le_of_ble_eq_true rfl) (Nat.le_of_ble_eq_true rfl) ?_)
  refine n_aload_n dX6_init_4 rfl 0 rfl (n_sipush dX6_init_5 (v := 1200) (by decide) (n_naB (N' := 1200) hb hR hF dX6_init_8 dX6_init_10 (by decide +kernel) fn_X6_11 (by decide) (by omega) (Nat.le_of_ble_eq_true rfl) (Nat.le_of_ble_eq_true rfl) (fun hR hF => ?_)))
  refine n_aload_n dX6_init_13 rfl 0 rfl (n_bipush dX6_init_14 (v := 12) (by decide) (n_naI (N' := 12) hb hR hF dX6_init_16 dX6_init_18 (by decide +kernel) fn_X6_15 (by decide) (by omega) (Nat.le_of_ble_eq_true rfl) (Nat.le_of_ble_eq_true rfl) (fun hR hF => ?_)))
  refine n_aload_n dX6_init_21 rfl 0 rfl (n_sub (k2 := 12) hb hR hF dX6_init_22 dX6_init_25 dX6_init_26 dX6_init_29 ux_3 tyX3_ok ⟨(gm 140 (by decide +kernel) rfl), (gm 141 (by decide +kernel) rfl), (gm 109 (by decide +kernel) rfl)⟩ rfl dX3_ok (fun _ => rfl) (kX3 (nO_len hb hR) (by omega)) okc_mX6_init_21 fn_X6_22 (by decide) (by omega) rfl (Nat.le_of_ble_eq_true rfl) (Nat.le_of_ble_eq_true rfl) (Nat.le_of_ble_eq_true rfl) (fun hR hF => ?_))
  refine n_aload_n dX6_init_32 rfl 0 rfl (n_ldc dX6_init_33 (v := -1000000) (gm 193 (by decide +kernel) rfl) (n_fI hb hF dX6_init_35 fn_X6_27 (by decide) (fun hF => ?_)))
  refine n_iconst dX6_init_38 (v := 0) rfl (n_istore_n dX6_init_39 rfl (by decide) rfl (n_iconst dX6_init_40 (v := 0) rfl (n_istore_n dX6_init_41 rfl (by decide) rfl (n_iconst dX6_init_42 (v := 0) rfl (n_istore_n dX6_init_43 rfl (by decide) rfl ?_)))))
  exact kX6l hb (Nat.le_of_ble_eq_true rfl) (Nat.le_of_ble_eq_true rfl) 67 0 0 0 (fun _ => 0) (by omega) (by omega) (by omega)


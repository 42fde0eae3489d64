def mX10_init : gM := (yX10_init, cX10_init, RX10, 2, none, 5, 108)
theorem dX10_init_0 : decode mX10_init.2.1 0 = .ok (.aload_n 0, 1) := by decide +kernel
theorem dX10_init_1 : decode mX10_init.2.1 1 = .ok (.invokespecial 1, 3) := by decide +kernel
theorem dX10_init_4 : decode mX10_init.2.1 4 = .ok (.aload_n 0, 1) := by decide +kernel
theorem dX10_init_5 : decode mX10_init.2.1 5 = .ok (.new 7, 3) := by decide +kernel
theorem dX10_init_8 : decode mX10_init.2.1 8 = .ok (.dup, 1) := by decide +kernel
theorem dX10_init_9 : decode mX10_init.2.1 9 = .ok (.invokespecial 9, 3) := by decide +kernel
theorem dX10_init_12 : decode mX10_init.2.1 12 = .ok (.putfield 10, 3) := by decide +kernel
theorem dX10_init_15 : decode mX10_init.2.1 15 = .ok (.aload_n 0, 1) := by decide +kernel
theorem dX10_init_16 : decode mX10_init.2.1 16 = .ok (.new 16, 3) := by decide +kernel
theorem dX10_init_19 : decode mX10_init.2.1 19 = .ok (.dup, 1) := by decide +kernel
theorem dX10_init_20 : decode mX10_init.2.1 20 = .ok (.invokespecial 18, 3) := by decide +kernel
theorem dX10_init_23 : decode mX10_init.2.1 23 = .ok (.putfield 19, 3) := by decide +kernel
theorem dX10_init_26 : decode mX10_init.2.1 26 = .ok (.aload_n 0, 1) := by decide +kernel
theorem dX10_init_27 : decode mX10_init.2.1 27 = .ok (.new 23, 3) := by decide +kernel
theorem dX10_init_30 : decode mX10_init.2.1 30 = .ok (.dup, 1) := by decide +kernel
theorem dX10_init_31 : decode mX10_init.2.1 31 = .ok (.invokespecial 25, 3) := by decide +kernel
theorem dX10_init_34 : decode mX10_init.2.1 34 = .ok (.putfield 26, 3) := by decide +kernel
theorem dX10_init_37 : decode mX10_init.2.1 37 = .ok (.aload_n 0, 1) := by decide +kernel
theorem dX10_init_38 : decode mX10_init.2.1 38 = .ok (.new 30, 3) := by decide +kernel
theorem dX10_init_41 : decode mX10_init.2.1 41 = .ok (.dup, 1) := by decide +kernel
theorem dX10_init_42 : decode mX10_init.2.1 42 = .ok (.invokespecial 32, 3) := by decide +kernel
theorem dX10_init_45 : decode mX10_init.2.1 45 = .ok (.putfield 33, 3) := by decide +kernel
theorem dX10_init_48 : decode mX10_init.2.1 48 = .ok (.aload_n 0, 1) := by decide +kernel
theorem dX10_init_49 : decode mX10_init.2.1 49 = .ok (.new 37, 3) := by decide +kernel
theorem dX10_init_52 : decode mX10_init.2.1 52 = .ok (.dup, 1) := by decide +kernel
theorem dX10_init_53 : decode mX10_init.2.1 53 = .ok (.invokespecial 39, 3) := by decide +kernel
theorem dX10_init_56 : decode mX10_init.2.1 56 = .ok (.putfield 40, 3) := by decide +kernel
theorem dX10_init_59 : decode mX10_init.2.1 59 = .ok (.aload_n 0, 1) := by decide +kernel
theorem dX10_init_60 : decode mX10_init.2.1 60 = .ok (.new 44, 3) := by decide +kernel
theorem dX10_init_63 : decode mX10_init.2.1 63 = .ok (.dup, 1) := by decide +kernel
theorem dX10_init_64 : decode mX10_init.2.1 64 = .ok (.invokespecial 46, 3) := by decide +kernel
theorem dX10_init_67 : decode mX10_init.2.1 67 = .ok (.putfield 47, 3) := by decide +kernel
theorem dX10_init_70 : decode mX10_init.2.1 70 = .ok (.aload_n 0, 1) := by decide +kernel
theorem dX10_init_71 : decode mX10_init.2.1 71 = .ok (.new 51, 3) := by decide +kernel
theorem dX10_init_74 : decode mX10_init.2.1 74 = .ok (.dup, 1) := by decide +kernel
theorem dX10_init_75 : decode mX10_init.2.1 75 = .ok (.invokespecial 53, 3) := by decide +kernel
theorem dX10_init_78 : decode mX10_init.2.1 78 = .ok (.putfield 54, 3) := by decide +kernel
theorem dX10_init_81 : decode mX10_init.2.1 81 = .ok (.aload_n 0, 1) := by decide +kernel
theorem dX10_init_82 : decode mX10_init.2.1 82 = .ok (.new 58, 3) := by decide +kernel
theorem dX10_init_85 : decode mX10_init.2.1 85 = .ok (.dup, 1) := by decide +kernel
theorem dX10_init_86 : decode mX10_init.2.1 86 = .ok (.invokespecial 60, 3) := by decide +kernel
theorem dX10_init_89 : decode mX10_init.2.1 89 = .ok (.putfield 61, 3) := by decide +kernel
theorem dX10_init_92 : decode mX10_init.2.1 92 = .ok (.aload_n 0, 1) := by decide +kernel
theorem dX10_init_93 : decode mX10_init.2.1 93 = .ok (.new 65, 3) := by decide +kernel
theorem dX10_init_96 : decode mX10_init.2.1 96 = .ok (.dup, 1) := by decide +kernel
theorem dX10_init_97 : decode mX10_init.2.1 97 = .ok (.invokespecial 67, 3) := by decide +kernel
theorem dX10_init_100 : decode mX10_init.2.1 100 = .ok (.putfield 68, 3) := by decide +kernel
theorem dX10_init_103 : decode mX10_init.2.1 103 = .ok (.aload_n 0, 1) := by decide +kernel
theorem dX10_init_104 : decode mX10_init.2.1 104 = .ok (.bipush 8, 2) := by decide +kernel
theorem dX10_init_106 : decode mX10_init.2.1 106 = .ok (.anewarray 72, 3) := by decide +kernel
theorem dX10_init_109 : decode mX10_init.2.1 109 = .ok (.putfield 74, 3) := by decide +kernel
theorem dX10_init_112 : decode mX10_init.2.1 112 = .ok (.iconst 0, 1) := by decide +kernel
theorem dX10_init_113 : decode mX10_init.2.1 113 = .ok (.istore_n 1, 1) := by decide +kernel
theorem dX10_init_114 : decode mX10_init.2.1 114 = .ok (.iload_n 1, 1) := by decide +kernel
theorem dX10_init_115 : decode mX10_init.2.1 115 = .ok (.bipush 8, 2) := by decide +kernel
theorem dX10_init_117 : decode mX10_init.2.1 117 = .ok (.if_icmp .ge 22, 3) := by decide +kernel
theorem dX10_init_120 : decode mX10_init.2.1 120 = .ok (.aload_n 0, 1) := by decide +kernel
theorem dX10_init_121 : decode mX10_init.2.1 121 = .ok (.getfield 74, 3) := by decide +kernel
theorem dX10_init_124 : decode mX10_init.2.1 124 = .ok (.iload_n 1, 1) := by decide +kernel
theorem dX10_init_125 : decode mX10_init.2.1 125 = .ok (.new 72, 3) := by decide +kernel
theorem dX10_init_128 : decode mX10_init.2.1 128 = .ok (.dup, 1) := by decide +kernel
theorem dX10_init_129 : decode mX10_init.2.1 129 = .ok (.invokespecial 78, 3) := by decide +kernel
theorem dX10_init_132 : decode mX10_init.2.1 132 = .ok (.aastore, 1) := by decide +kernel
theorem dX10_init_133 : decode mX10_init.2.1 133 = .ok (.iinc 1 1, 3) := by decide +kernel
theorem dX10_init_136 : decode mX10_init.2.1 136 = .ok (.goto (-22), 3) := by decide +kernel
theorem dX10_init_139 : decode mX10_init.2.1 139 = .ok (.return_, 1) := by decide +kernel
theorem okc_mX10_init_9 : nOk mX10_init mX6_init 9 14 2120 := ⟨List.forall_mem_cons.mpr ⟨(gm 138 (by decide +kernel) rfl), List.forall_mem_cons.mpr ⟨(gm 137 (by decide +kernel) rfl), List.forall_mem_cons.mpr ⟨(gm 108 (by decide +kernel) rfl), fun _ h => absurd h List.not_mem_nil⟩⟩⟩, Or.inl (gm 136 (by decide +kernel) rfl), by decide +kernel, by decide +kernel, by decide +kernel, rfl, rfl⟩
theorem fn_X10_10 : nFp mX10_init 10 10 0 (.object "LinkageCurves$Reader") := ⟨RX10, TX10, 12, rfl, by decide, ux_10, (gm 526 (by decide +kernel) rfl), Or.inr ⟨rfl, rfl, rfl⟩, by decide +kernel, ⟨tyX10, tyX10_ok⟩, nmX10⟩
theorem okc_mX10_init_18 : nOk mX10_init mX3_init 18 11 898 := ⟨List.forall_mem_cons.mpr ⟨(gm 144 (by decide +kernel) rfl), List.forall_mem_cons.mpr ⟨(gm 143 (by decide +kernel) rfl), List.forall_mem_cons.mpr ⟨(gm 109 (by decide +kernel) rfl), fun _ h => absurd h List.not_mem_nil⟩⟩⟩, Or.inr (by decide +kernel), by decide +kernel, by decide +kernel, by decide +kernel, rfl, rfl⟩
theorem fn_X10_19 : nFp mX10_init 19 10 1 (.object "LinkageCurves$Linkage") := ⟨RX10, TX10, 12, rfl, by decide, ux_10, (gm 527 (by decide +kernel) rfl), Or.inl rfl, by decide +kernel, ⟨tyX10, tyX10_ok⟩, nmX10⟩
theorem okc_mX10_init_25 : nOk mX10_init mX1_init 25 30 264 := ⟨List.forall_mem_cons.mpr ⟨(gm 285 (by decide +kernel) rfl), List.forall_mem_cons.mpr ⟨(gm 284 (by decide +kernel) rfl), List.forall_mem_cons.mpr ⟨(gm 114 (by decide +kernel) rfl), fun _ h => absurd h List.not_mem_nil⟩⟩⟩, Or.inr (by decide +kernel), by decide +kernel, by decide +kernel, by decide +kernel, rfl, rfl⟩
theorem fn_X10_26 : nFp mX10_init 26 10 2 (.object "LinkageCurves$Counts") := ⟨RX10, TX10, 12, rfl, by decide, ux_10, (gm 528 (by decide +kernel) rfl), Or.inr ⟨rfl, rfl, rfl⟩, by decide +kernel, ⟨tyX10, tyX10_ok⟩, nmX10⟩
theorem okc_mX10_init_32 : nOk mX10_init mX4_init 32 64 3060 := ⟨List.forall_mem_cons.mpr ⟨(gm 329 (by decide +kernel) rfl), List.forall_mem_cons.mpr ⟨(gm 328 (by decide +kernel) rfl), List.forall_mem_cons.mpr ⟨(gm 115 (by decide +kernel) rfl), fun _ h => absurd h List.not_mem_nil⟩⟩⟩, Or.inr (by decide +kernel), by decide +kernel, by decide +kernel, by decide +kernel, rfl, rfl⟩
theorem fn_X10_33 : nFp mX10_init 33 10 3 (.object "LinkageCurves$Matrix") := ⟨RX10, TX10, 12, rfl, by decide, ux_10, (gm 529 (by decide +kernel) rfl), Or.inr ⟨rfl, rfl, rfl⟩, by decide +kernel, ⟨tyX10, tyX10_ok⟩, nmX10⟩
theorem okc_mX10_init_39 : nOk mX10_init mX9_init 39 7 168 := ⟨List.forall_mem_cons.mpr ⟨(gm 361 (by decide +kernel) rfl), List.forall_mem_cons.mpr ⟨(gm 360 (by decide +kernel) rfl), List.forall_mem_cons.mpr ⟨(gm 116 (by decide +kernel) rfl), fun _ h => absurd h List.not_mem_nil⟩⟩⟩, Or.inr (by decide +kernel), by decide +kernel, by decide +kernel, by decide +kernel, rfl, rfl⟩
theorem fn_X10_40 : nFp mX10_init 40 10 4 (.object "LinkageCurves$Turning") := ⟨RX10, TX10, 12, rfl, by decide, ux_10, (gm 530 (by decide +kernel) rfl), Or.inr ⟨rfl, rfl, rfl⟩, by decide +kernel, ⟨tyX10, tyX10_ok⟩, nmX10⟩
theorem okc_mX10_init_46 : nOk mX10_init mX5_init 46 3 72 := ⟨List.forall_mem_cons.mpr ⟨(gm 398 (by decide +kernel) rfl), List.forall_mem_cons.mpr ⟨(gm 397 (by decide +kernel) rfl), List.forall_mem_cons.mpr ⟨(gm 117 (by decide +kernel) rfl), fun _ h => absurd h List.not_mem_nil⟩⟩⟩, Or.inr (by decide +kernel), by decide +kernel, by decide +kernel, by decide +kernel, rfl, rfl⟩
theorem fn_X10_47 : nFp mX10_init 47 10 5 (.object "LinkageCurves$Places") := ⟨RX10, TX10, 12, rfl, by decide, ux_10, (gm 531 (by decide +kernel) rfl), Or.inr ⟨rfl, rfl, rfl⟩, by decide +kernel, ⟨tyX10, tyX10_ok⟩, nmX10⟩
theorem okc_mX10_init_53 : nOk mX10_init mX2_init 53 7 843 := ⟨List.forall_mem_cons.mpr ⟨(gm 423 (by decide +kernel) rfl), List.forall_mem_cons.mpr ⟨(gm 422 (by decide +kernel) rfl), List.forall_mem_cons.mpr ⟨(gm 118 (by decide +kernel) rfl), fun _ h => absurd h List.not_mem_nil⟩⟩⟩, Or.inr (by decide +kernel), by decide +kernel, by decide +kernel, by decide +kernel, rfl, rfl⟩
theorem fn_X10_54 : nFp mX10_init 54 10 7 (.object "LinkageCurves$Curve") := ⟨RX10, TX10, 12, rfl, by decide, ux_10, (gm 533 (by decide +kernel) rfl), Or.inr ⟨rfl, rfl, rfl⟩, by decide +kernel, ⟨tyX10, tyX10_ok⟩, nmX10⟩
theorem okc_mX10_init_60 : nOk mX10_init mX8_init 60 4 64 := ⟨List.forall_mem_cons.mpr ⟨(gm 453 (by decide +kernel) rfl), List.forall_mem_cons.mpr ⟨(gm 452 (by decide +kernel) rfl), List.forall_mem_cons.mpr ⟨(gm 119 (by decide +kernel) rfl), fun _ h => absurd h List.not_mem_nil⟩⟩⟩, Or.inr (by decide +kernel), by decide +kernel, by decide +kernel, by decide +kernel, rfl, rfl⟩
theorem fn_X10_61 : nFp mX10_init 61 10 8 (.object "LinkageCurves$Train") := ⟨RX10, TX10, 12, rfl, by decide, ux_10, (gm 534 (by decide +kernel) rfl), Or.inr ⟨rfl, rfl, rfl⟩, by decide +kernel, ⟨tyX10, tyX10_ok⟩, nmX10⟩
theorem okc_mX10_init_67 : nOk mX10_init mX0_init 67 1 16 := ⟨List.forall_mem_cons.mpr ⟨(gm 481 (by decide +kernel) rfl), List.forall_mem_cons.mpr ⟨(gm 480 (by decide +kernel) rfl), List.forall_mem_cons.mpr ⟨(gm 120 (by decide +kernel) rfl), fun _ h => absurd h List.not_mem_nil⟩⟩⟩, Or.inr (by decide +kernel), by decide +kernel, by decide +kernel, by decide +kernel, rfl, rfl⟩
theorem fn_X10_68 : nFp mX10_init 68 10 9 (.object "LinkageCurves$Asks") := ⟨RX10, TX10, 12, rfl, by decide, ux_10, (gm 535 (by decide +kernel) rfl), Or.inr ⟨rfl, rfl, rfl⟩, by decide +kernel, ⟨tyX10, tyX10_ok⟩, nmX10⟩
theorem fn_X10_74 : nFp mX10_init 74 10 10 (.array (.object "LinkageCurves$Row")) := ⟨RX10, TX10, 12, rfl, by decide, ux_10, (gm 536 (by decide +kernel) rfl), Or.inr ⟨rfl, rfl, rfl⟩, by decide +kernel, ⟨tyX10, tyX10_ok⟩, nmX10⟩
theorem okc_mX10_init_78 : nOk mX10_init mX7_init 78 1 300 := ⟨List.forall_mem_cons.mpr ⟨(gm 507 (by decide +kernel) rfl), List.forall_mem_cons.mpr ⟨(gm 506 (by decide +kernel) rfl), List.forall_mem_cons.mpr ⟨(gm 121 (by decide +kernel) rfl), fun _ h => absurd h List.not_mem_nil⟩⟩⟩, Or.inr (by decide +kernel), by decide +kernel, by decide +kernel, by decide +kernel, rfl, rfl⟩

section NQ
variable {E : gE} {M : gM} {K N kc nc pc : Nat} {lv : List (Nat × Value)} {st : List Value} {Mm M' : List va_E} {r : Option Value}
theorem n_newq {idx : Nat} {n : Int32} {N' : Nat} {M2 : List va_E} {L0 : Nat} (hd : decode M.2.1 pc = .ok (.anewarray idx, 3)) (hw : Cond.classLink M.2.2.1 idx RX7 ∈ gWS) (hn : ¬ n < 0 ∧ n.toNatClampNeg = N' ∧ N' ≤ 10000) (hL : Mm.length = L0) (hlen : L0 < gNH) (h1 : kc + 1 ≤ K) (h2 : nc + N' ≤ N) (hM : Mm ++ [.inl (E.2.2.1 4, N', .inr (.inr (.inr (.inr (fun _ => none)))))] = M2)
    (kk : nG E M K N (pc + 3) lv (.ref L0 :: st) M2 (kc + 1) (nc + N') r M') : nG E M K N pc lv (.int n :: st) Mm kc nc r M' := by
  intro p e R s m args below meth c H locs ls F hP hS hl
  subst hM; subst hL
  obtain ⟨hn1, hn2, hn3⟩ := hn
  subst hn2
  have hK := F.2.2.2.2.2.2.2.2.2.1
  have hB := F.2.2.2.2.2.2.2.2.2.2.2.2.1
  have hz : H.size = E.2.2.2 Mm.length := by rw [hP.2.1]; exact (hB _ hlen).symm
  refine W.anew F.1 F.2.1 F.2.2.2.2.1 (F.2.2.2.2.2.1 _ hw) (va_AO.use hK.2.2.2.1) rfl hd rfl hn1 (by omega) (Nat.le_trans h1 F.2.2.2.2.2.2.2.2.2.2.1.1) (Nat.le_trans h2 F.2.2.2.2.2.2.2.2.2.2.1.2) fun cA kA comp f1 f2 f3 f4 => ?_
  obtain ⟨kA', comp', q1, q2, q3, q4⟩ := (hK.1.2 4 _ rfl).2
  have hcA : cA = E.2.2.1 4 := Option.some.inj (f1.symm.trans q4)
  subst hcA
  generalize hH1 : H.push ({ cls := E.2.2.1 4, slots := Array.replicate n.toNatClampNeg .null, vm := .none } : Cell) = H1
  have e1 : H1[H.size]? = some (arrV (E.2.2.1 4) n.toNatClampNeg (fun _ => .null)) := by rw [← hH1, Array.getElem?_push_size, ← arrV_new]
  obtain ⟨hP1, hS1⟩ := nP_push (x := .inl (E.2.2.1 4, n.toNatClampNeg, .inr (.inr (.inr (.inr (fun _ => none)))))) hB hP hS hlen (H1 := H1) (by rw [← hH1, Array.size_push, hz]) (fun q hq => by rw [← hH1, Array.getElem?_push, if_neg (by omega)]) (by rw [← hz]; exact e1)
  rw [hz]
  exact kk p e R s m args below meth c H1 locs ls F hP1 hS1 hl
theorem n_aast {h v n : Nat} {f : Nat → Option Nat} {fv : List Value} {i : Int32} {M2 : List va_E} (hd : decode M.2.1 pc = .ok (.aastore, 1)) (hM : Mm[h]? = some (.inl (E.2.2.1 4, n, .inr (.inr (.inr (.inr f)))))) (hV : Mm[v]? = some (.inr (7, fv))) (hin : ¬ (i < 0 ∨ n ≤ i.toNatClampNeg)) (hM2 : Mm.set h (.inl (E.2.2.1 4, n, .inr (.inr (.inr (.inr (va_up f i.toNatClampNeg (some v))))))) = M2) (kk : nG E M K N (pc + 1) lv st M2 kc nc r M') : nG E M K N pc lv (.ref v :: .int i :: .ref h :: st) Mm kc nc r M' := by
  intro p e R s m args below meth c H locs ls F hP hS hl
  subst hM2
  have hK := F.2.2.2.2.2.2.2.2.2.1
  have hB := F.2.2.2.2.2.2.2.2.2.2.2.2.1
  have he : (nws E.2.2.2 Mm)[h]? = some (E.2.2.2 h, .inl (E.2.2.1 4, n, .inr (.inr (.inr (.inr (fun q => (f q).map E.2.2.2)))))) := nws_get hM
  have hev : (nws E.2.2.2 Mm)[v]? = some (E.2.2.2 v, .inr (7, fv.map (gv E.2.2.2))) := nws_get hV
  have hD := nws_D hB hP.1
  obtain ⟨kA', comp', q1, q2, q3, q4⟩ := (hK.1.2 4 _ rfl).2
  obtain ⟨r7, g1, cv, g2, g3, g4, -⟩ := hP.2.2 v _ hev
  obtain ⟨-, t2, kC, t3, -⟩ := hK.1.1 7 _ rfl
  have hcomp : comp' = E.2.1.1 7 := Option.some.inj (q3.symm.trans t2)
  subst hcomp
  have hlt : i.toNatClampNeg < n := Nat.not_le.mp fun q => hin (Or.inr q)
  refine W.aast F.1 F.2.1 (hP.2.2 h _ he) (fun q h => by cases h) (fun h => by cases h) q1 q2 rfl t3 ⟨fun q => hin (Or.inl q), by show _ < (arrV _ _ _).slots.size; rw [arrV_size]; exact hlt⟩ g2 (fun q h => by rw [g4] at h; cases h) (by rw [g3]; exact t3) (by rw [g3]; exact as_self s.vm _) rfl rfl hd fun H1 e1 z oq => ?_
  have hset : (nws E.2.2.2 Mm).set h (E.2.2.2 h, .inl (E.2.2.1 4, n, .inr (.inr (.inr (.inr (va_up (fun q => (f q).map E.2.2.2) i.toNatClampNeg (some (E.2.2.2 v)))))))) = nws E.2.2.2 (Mm.set h (.inl (E.2.2.1 4, n, .inr (.inr (.inr (.inr (va_up f i.toNatClampNeg (some v)))))))) := by
    rw [← nws_set]
    congr 2
    show _ = Sum.inl (E.2.2.1 4, n, Sum.inr (Sum.inr (Sum.inr (Sum.inr (fun q => (va_up f i.toNatClampNeg (some v) q).map E.2.2.2)))))
    congr 7
    funext q
    by_cases hq : q = i.toNatClampNeg
    · subst hq; simp [va_up]
    · simp [va_up, hq]
  have hat : va_at E.2.1 vwCl (E.2.2.2 h, .inl (E.2.2.1 4, n, .inr (.inr (.inr (.inr (va_up (fun q => (f q).map E.2.2.2) i.toNatClampNeg (some (E.2.2.2 v)))))))) H1 := by
    show H1[E.2.2.2 h]? = some (vp_cell _ _)
    rw [e1]
    rw [vp_cell_q, vp_cell_q, arrV_store]
    congr 2
    funext q
    by_cases hq : q = i.toNatClampNeg
    · subst hq
      simp [updV, va_up, va_rf]
    · simp [updV, va_up, hq]
  have hP1 := hP.2.2.set hD he hat oq
  rw [hset] at hP1
  exact kk p e R s m args below meth c H1 _ ls F ⟨by rw [List.length_set]; exact hP.1, by rw [z, List.length_set]; exact hP.2.1, hP1⟩ (hS.put z oq (hD.2 h _ he)) hl
/-- an array's places beyond its end say nothing -/
theorem n_conv {A B : List va_E} {cA : ClassId} {n : Nat} {f f2 : Nat → Option Nat} (h : ∀ q, q < n → f q = f2 q) (kk : nG E M K N pc lv st (A ++ (.inl (cA, n, .inr (.inr (.inr (.inr f2)))) :: B)) kc nc r M') : nG E M K N pc lv st (A ++ (.inl (cA, n, .inr (.inr (.inr (.inr f)))) :: B)) kc nc r M' := by
  intro p e R s m args below meth c H locs ls F hP hS hl
  refine kk p e R s m args below meth c H locs ls F ⟨by simpa using hP.1, by simpa using hP.2.1, ?_⟩ hS hl
  intro i q hq
  simp only [nws, List.getElem?_mapIdx, Option.map_eq_some_iff] at hq
  obtain ⟨x, hx1, rfl⟩ := hq
  by_cases hi : i = A.length
  · subst hi
    have h0 : (A ++ (.inl (cA, n, .inr (.inr (.inr (.inr f)))) :: B))[A.length]? = some (Sum.inl (cA, n, Sum.inr (Sum.inr (Sum.inr (Sum.inr f)))) : va_E) := by simp
    have h1 := hP.2.2 _ _ (nws_get h0)
    have h2 : x = (Sum.inl (cA, n, Sum.inr (Sum.inr (Sum.inr (Sum.inr f2)))) : va_E) := by simpa using hx1.symm
    subst h2
    show H[E.2.2.2 A.length]? = some (vp_cell _ _)
    have h3 : H[E.2.2.2 A.length]? = some (arrV cA n (fun j => va_rf ((f j).map E.2.2.2))) := h1
    rw [h3, vp_cell_q]
    exact congrArg some (arrV_same fun j hj => by rw [h j hj])
  · have h0 : (A ++ (.inl (cA, n, .inr (.inr (.inr (.inr f)))) :: B))[i]? = some x := by
      rcases Nat.lt_or_ge i A.length with hl | hl
      · rw [List.getElem?_append_left hl] at hx1 ⊢; exact hx1
      · rw [List.getElem?_append_right hl] at hx1 ⊢
        obtain ⟨j, hj⟩ : ∃ j, i - A.length = j + 1 := ⟨i - A.length - 1, by omega⟩
        rw [hj, List.getElem?_cons_succ] at hx1 ⊢
        exact hx1
    exact hP.2.2 _ _ (nws_get h0)
end NQ
def rws (cy : Nat → ClassId) (a : Nat) : Nat → List va_E
  | 0 => []
  | i + 1 => rws cy a i ++ tX7 cy (a + 1 + 2 * i)
theorem rws_len (cy : Nat → ClassId) (a : Nat) : ∀ i, (rws cy a i).length = 2 * i
  | 0 => rfl
  | i + 1 => by rw [rws, List.length_append, rws_len cy a i]; show 2 * i + 2 = _; omega
def frw (a i : Nat) : Nat → Option Nat := fun q => if q < i then some (a + 1 + 2 * q) else none
theorem frw_up (a i : Nat) : va_up (frw a i) i (some (a + 1 + 2 * i)) = frw a (i + 1) := by
  funext q
  by_cases h : q = i
  · subst h; simp [va_up, frw]
  · by_cases h2 : q < i
    · simp [va_up, frw, h, h2, Nat.lt_succ_of_lt h2]
    · simp [va_up, frw, h, h2, show ¬ q < i + 1 by omega]
theorem frw_0 (a : Nat) : frw a 0 = fun _ => none := by funext q; simp [frw]
theorem nI8 : ∀ i, i ≤ 8 → nI i + Int32.ofInt 1 = nI (i + 1) ∧ ((8 ≤ nI i) ↔ 8 ≤ i) ∧ (nI i).toNatClampNeg = i ∧ (i < 8 → ¬ (nI i < 0 ∨ 8 ≤ (nI i).toNatClampNeg)) := by decide +kernel
theorem u_304 {nc n N : Nat} (h : nc + 304 * (n + 1) ≤ N) : nc + 4 + 300 ≤ N ∧ nc + 4 + 300 + 304 * n ≤ N := by
  have e : 304 * (n + 1) = 304 * n + 304 := Nat.mul_succ 304 n
  rw [e] at h
  generalize 304 * n = z at *
  refine ⟨?_, ?_⟩
  · rw [Nat.add_assoc nc 4 300]
    exact Nat.le_trans (Nat.add_le_add_left (Nat.le_add_left 304 z) nc) h
  · rw [Nat.add_assoc nc 4 300, Nat.add_assoc, Nat.add_comm _ z]
    exact h
theorem u_two {nc n N : Nat} (h : nc + 2 * (n + 1) ≤ N) : nc + 1 + 1 ≤ N ∧ nc + 1 + 1 + 2 * n ≤ N := by constructor <;> omega
theorem kX10l {E : gE} {Pm : List va_E} {a b K N : Nat} {fF : List Value} (ha : Pm.length = a) (hP : Pm[b]? = some (.inr (10, fF))) (hf : fF[10]? = some (.ref a)) (hB : a + 17 ≤ gNH) : ∀ (n i kc nc : Nat), i + n = 8 → kc + 2 * n ≤ K → nc + 304 * n ≤ N → nG E mX10_init K N 114 [(1, .int (nI i)), (0, .ref b)] [] (Pm ++ (.inl (E.2.2.1 4, 8, .inr (.inr (.inr (.inr (frw a i))))) :: rws E.2.2.1 a i)) kc nc none (Pm ++ (.inl (E.2.2.1 4, 8, .inr (.inr (.inr (.inr (fun q => some (a + 1 + 2 * q)))))) :: rws E.2.2.1 a 8))
  | 0, i, kc, nc, hn, h1, h2 => by
    have hi : i = 8 := by omega
    subst hi
    refine n_iload_n dX10_init_114 rfl 0 rfl (n_bipush dX10_init_115 (v := 8) rfl (n_icmp_ge dX10_init_117 rfl (fun _ => ?_) (fun h => absurd ((nI8 8 (by omega)).2.1.mpr (by omega)) h)))
    exact n_conv (fun q hq => by simp [frw, hq]) (n_vret dX10_init_139 rfl (by omega) (by omega))
  | n + 1, i, kc, nc, hn, h1, h2 => by
    have hi : i < 8 := by omega
    obtain ⟨a1, a2, a3, a4⟩ := nI8 i (by omega)
    have hlen : (Pm ++ (.inl (E.2.2.1 4, 8, .inr (.inr (.inr (.inr (frw a i))))) :: rws E.2.2.1 a i)).length = a + 1 + 2 * i := by
      rw [List.length_append, List.length_cons, rws_len, ha]; omega
    have hPb : (Pm ++ (.inl (E.2.2.1 4, 8, .inr (.inr (.inr (.inr (frw a i))))) :: rws E.2.2.1 a i))[b]? = some (.inr (10, fF)) := by
      rw [List.getElem?_append_left (List.getElem?_eq_some_iff.mp hP).1]; exact hP
    refine n_iload_n dX10_init_114 rfl 0 rfl (n_bipush dX10_init_115 (v := 8) rfl (n_icmp_ge dX10_init_117 rfl (fun h => absurd (a2.mp h) (by omega)) (fun _ => ?_)))
    refine n_aload_n dX10_init_120 rfl 1 rfl (n_get dX10_init_121 hPb fl_RX10_74 (v := .ref a) hf (n_iload_n dX10_init_124 rfl 0 rfl ?_))
    have c3 : (([.ref (a + 1 + 2 * i), .int (nI i), .ref a] : List Value).map fun v => v.category).sum ≤ 8 := by simp [Value.category]
    obtain ⟨u1, u3⟩ := u_two h1
    obtain ⟨u2, u4⟩ := u_304 h2
    refine n_new dX10_init_125 ux_7 tyX7_ok ⟨(gm 502 (by decide +kernel) rfl), (gm 504 (by decide +kernel) rfl), (gm 121 (by decide +kernel) rfl)⟩ rfl dX7_ok (fun _ => rfl) hlen (by omega) (by omega) (Nat.le_trans (Nat.le_add_right _ 300) u2) rfl (n_dup dX10_init_128 rfl (n_init (kX7 hlen (by omega)) dX10_init_129 okc_mX10_init_78 (st := [.ref (a + 1 + 2 * i), .int (nI i), .ref a]) c3 u1 u2 ?_))
    refine n_aast (h := a) (n := 8) (f := frw a i) (fv := (dX7).set 3 (.ref (a + 1 + 2 * i + 1 + 0))) dX10_init_132 ?_ ?_ (a4 hi) rfl ?_
    · subst ha
      rw [List.append_assoc, List.getElem?_append_right (Nat.le_refl _), Nat.sub_self]
      rfl
    · rw [List.getElem?_append_right (by rw [hlen]; exact Nat.le_refl _), hlen, Nat.sub_self]
      rfl
    · rw [a3, frw_up]
      have e1 : (Pm ++ (.inl (E.2.2.1 4, 8, .inr (.inr (.inr (.inr (frw a i))))) :: rws E.2.2.1 a i) ++ tX7 E.2.2.1 (a + 1 + 2 * i)).set a (.inl (E.2.2.1 4, 8, .inr (.inr (.inr (.inr (frw a (i + 1))))))) = Pm ++ (.inl (E.2.2.1 4, 8, .inr (.inr (.inr (.inr (frw a (i + 1)))))) :: rws E.2.2.1 a (i + 1)) := by
        subst ha
        rw [List.append_assoc, List.set_append, if_neg (Nat.lt_irrefl _), Nat.sub_self]
        rfl
      rw [e1]
      exact n_iinc dX10_init_133 (j := 0) rfl a1 (by decide) rfl (n_goto dX10_init_136 rfl (kX10l ha hP hf hB n (i + 1) _ _ (by omega) u3 u4))
def fX10c (b : Nat) : List Value := ((((((((((dX10).set 0 (.ref (b + 1 + 0))).set 1 (.ref (b + 1 + (0 + 15)))).set 2 (.ref (b + 1 + ((0 + 15) + 12)))).set 3 (.ref (b + 1 + (((0 + 15) + 12) + 31)))).set 4 (.ref (b + 1 + ((((0 + 15) + 12) + 31) + 65)))).set 5 (.ref (b + 1 + (((((0 + 15) + 12) + 31) + 65) + 8)))).set 7 (.ref (b + 1 + ((((((0 + 15) + 12) + 31) + 65) + 8) + 4)))).set 8 (.ref (b + 1 + (((((((0 + 15) + 12) + 31) + 65) + 8) + 4) + 8)))).set 9 (.ref (b + 1 + ((((((((0 + 15) + 12) + 31) + 65) + 8) + 4) + 8) + 5)))).set 10 (.ref (b + 1 + (((((((((0 + 15) + 12) + 31) + 65) + 8) + 4) + 8) + 5) + 2)))
def rX10c (cy : Nat → ClassId) (b : Nat) : List va_E := (((((((((([] : List va_E) ++ tX6 cy (b + 1 + 0)) ++ tX3 cy (b + 1 + (0 + 15))) ++ tX1 cy (b + 1 + ((0 + 15) + 12))) ++ tX4 cy (b + 1 + (((0 + 15) + 12) + 31))) ++ tX9 cy (b + 1 + ((((0 + 15) + 12) + 31) + 65))) ++ tX5 cy (b + 1 + (((((0 + 15) + 12) + 31) + 65) + 8))) ++ tX2 cy (b + 1 + ((((((0 + 15) + 12) + 31) + 65) + 8) + 4))) ++ tX8 cy (b + 1 + (((((((0 + 15) + 12) + 31) + 65) + 8) + 4) + 8))) ++ tX0 cy (b + 1 + ((((((((0 + 15) + 12) + 31) + 65) + 8) + 4) + 8) + 5)))
def tX10 (cy : Nat → ClassId) (b : Nat) : List va_E := .inr (10, fX10c b) :: (rX10c cy b ++ (.inl (cy 4, 8, .inr (.inr (.inr (.inr (fun q => some (b + 1 + (((((((((0 + 15) + 12) + 31) + 65) + 8) + 4) + 8) + 5) + 2) + 1 + 2 * q)))))) :: rws cy (b + 1 + (((((((((0 + 15) + 12) + 31) + 65) + 8) + 4) + 8) + 5) + 2)) 8))
theorem kX10 {E : gE} {Pm : List va_E} {b : Nat} (hb : Pm.length = b) (hB : b + 168 ≤ gNH) : nC E mX10_init 167 10010 [.ref b] (Pm ++ [.inr (10, dX10)]) none (Pm ++ tX10 E.2.2.1 b) := by
  refine nC_of (by decide +kernel) rfl (Nat.le_of_ble_eq_true rfl) ?_
  show nG E mX10_init 167 10010 0 [(0, .ref b)] [] (nO Pm 10 dX10 []) 0 0 none (Pm ++ tX10 E.2.2.1 b)
  have hR : ([] : List va_E).length = 0 := rfl
  have hF : dX10.length = 12 := rfl
  refine n_aload_n dX10_init_0 rfl 0 rfl ?_
  refine n_objInit dX10_init_1 ⟨(gm 131 (by decide +kernel) rfl), gm_oi⟩ (Nat.le_of_ble_eq_true rfl) (Nat.le_of_ble_eq_true rfl) (Nat.le_of_ble_eq_true rfl) ?_
  refine n_aload_n dX10_init_4 rfl 0 rfl ?_
  refine n_sub (k2 := 15) hb hR hF dX10_init_5 dX10_init_8 dX10_init_9 dX10_init_12 ux_6 tyX6_ok ⟨(gm 134 (by decide +kernel) rfl), (gm 135 (by decide +kernel) rfl), (gm 108 (by decide +kernel) rfl)⟩ rfl dX6_ok (fun _ => rfl) (kX6 (nO_len hb hR) (by omega)) okc_mX10_init_9 fn_X10_10 (by decide) (by omega) rfl (Nat.le_of_ble_eq_true rfl) (Nat.le_of_ble_eq_true rfl) (Nat.le_of_ble_eq_true rfl) (fun hR hF => ?_)
  refine n_aload_n dX10_init_15 rfl 0 rfl ?_
  refine n_sub (k2 := 12) hb hR hF dX10_init_16 dX10_init_19 dX10_init_20 dX10_init_23 ux_3 tyX3_ok ⟨(gm 279 (by decide +kernel) rfl), (gm 141 (by decide +kernel) rfl), (gm 109 (by decide +kernel) rfl)⟩ rfl dX3_ok (fun _ => rfl) (kX3 (nO_len hb hR) (by omega)) okc_mX10_init_18 fn_X10_19 (by decide) (by omega) rfl (Nat.le_of_ble_eq_true rfl) (Nat.le_of_ble_eq_true rfl) (Nat.le_of_ble_eq_true rfl) (fun hR hF => ?_)
  refine n_aload_n dX10_init_26 rfl 0 rfl ?_
  refine n_sub (k2 := 31) hb hR hF dX10_init_27 dX10_init_30 dX10_init_31 dX10_init_34 ux_1 tyX1_ok ⟨(gm 281 (by decide +kernel) rfl), (gm 282 (by decide +kernel) rfl), (gm 114 (by decide +kernel) rfl)⟩ rfl dX1_ok (fun _ => rfl) (kX1 (nO_len hb hR) (by omega)) okc_mX10_init_25 fn_X10_26 (by decide) (by omega) rfl (Nat.le_of_ble_eq_true rfl) (Nat.le_of_ble_eq_true rfl) (Nat.le_of_ble_eq_true rfl) (fun hR hF => ?_)
  refine n_aload_n dX10_init_37 rfl 0 rfl ?_
  refine n_sub (k2 := 65) hb hR hF dX10_init_38 dX10_init_41 dX10_init_42 dX10_init_45 ux_4 tyX4_ok ⟨(gm 325 (by decide +kernel) rfl), (gm 326 (by decide +kernel) rfl), (gm 115 (by decide +kernel) rfl)⟩ rfl dX4_ok (fun _ => rfl) (kX4 (nO_len hb hR) (by omega)) okc_mX10_init_32 fn_X10_33 (by decide) (by omega) rfl (Nat.le_of_ble_eq_true rfl) (Nat.le_of_ble_eq_true rfl) (Nat.le_of_ble_eq_true rfl) (fun hR hF => ?_)
  refine n_aload_n dX10_init_48 rfl 0 rfl ?_
  refine n_sub (k2 := 8) hb hR hF dX10_init_49 dX10_init_52 dX10_init_53 dX10_init_56 ux_9 tyX9_ok ⟨(gm 357 (by decide +kernel) rfl), (gm 358 (by decide +kernel) rfl), (gm 116 (by decide +kernel) rfl)⟩ rfl dX9_ok (fun _ => rfl) (kX9 (nO_len hb hR) (by omega)) okc_mX10_init_39 fn_X10_40 (by decide) (by omega) rfl (Nat.le_of_ble_eq_true rfl) (Nat.le_of_ble_eq_true rfl) (Nat.le_of_ble_eq_true rfl) (fun hR hF => ?_)
  refine n_aload_n dX10_init_59 rfl 0 rfl ?_
  refine n_sub (k2 := 4) hb hR hF dX10_init_60 dX10_init_63 dX10_init_64 dX10_init_67 ux_5 tyX5_ok ⟨(gm 394 (by decide +kernel) rfl), (gm 395 (by decide +kernel) rfl), (gm 117 (by decide +kernel) rfl)⟩ rfl dX5_ok (fun _ => rfl) (kX5 (nO_len hb hR) (by omega)) okc_mX10_init_46 fn_X10_47 (by decide) (by omega) rfl (Nat.le_of_ble_eq_true rfl) (Nat.le_of_ble_eq_true rfl) (Nat.le_of_ble_eq_true rfl) (fun hR hF => ?_)
  refine n_aload_n dX10_init_70 rfl 0 rfl ?_
  refine n_sub (k2 := 8) hb hR hF dX10_init_71 dX10_init_74 dX10_init_75 dX10_init_78 ux_2 tyX2_ok ⟨(gm 419 (by decide +kernel) rfl), (gm 420 (by decide +kernel) rfl), (gm 118 (by decide +kernel) rfl)⟩ rfl dX2_ok (fun _ => rfl) (kX2 (nO_len hb hR) (by omega)) okc_mX10_init_53 fn_X10_54 (by decide) (by omega) rfl (Nat.le_of_ble_eq_true rfl) (Nat.le_of_ble_eq_true rfl) (Nat.le_of_ble_eq_true rfl) (fun hR hF => ?_)
  refine n_aload_n dX10_init_81 rfl 0 rfl ?_
  refine n_sub (k2 := 5) hb hR hF dX10_init_82 dX10_init_85 dX10_init_86 dX10_init_89 ux_8 tyX8_ok ⟨(gm 449 (by decide +kernel) rfl), (gm 450 (by decide +kernel) rfl), (gm 119 (by decide +kernel) rfl)⟩ rfl dX8_ok (fun _ => rfl) (kX8 (nO_len hb hR) (by omega)) okc_mX10_init_60 fn_X10_61 (by decide) (by omega) rfl (Nat.le_of_ble_eq_true rfl) (Nat.le_of_ble_eq_true rfl) (Nat.le_of_ble_eq_true rfl) (fun hR hF => ?_)
  refine n_aload_n dX10_init_92 rfl 0 rfl ?_
  refine n_sub (k2 := 2) hb hR hF dX10_init_93 dX10_init_96 dX10_init_97 dX10_init_100 ux_0 tyX0_ok ⟨(gm 477 (by decide +kernel) rfl), (gm 478 (by decide +kernel) rfl), (gm 120 (by decide +kernel) rfl)⟩ rfl dX0_ok (fun _ => rfl) (kX0 (nO_len hb hR) (by omega)) okc_mX10_init_67 fn_X10_68 (by decide) (by omega) rfl (Nat.le_of_ble_eq_true rfl) (Nat.le_of_ble_eq_true rfl) (Nat.le_of_ble_eq_true rfl) (fun hR hF => ?_)
  refine n_aload_n dX10_init_103 rfl 0 rfl (n_bipush dX10_init_104 (v := 8) (by decide) (n_newq (N' := 8) dX10_init_106 (gm 502 (by decide +kernel) rfl) (by decide +kernel) (nO_len hb hR) (by omega) (Nat.le_of_ble_eq_true rfl) (Nat.le_of_ble_eq_true rfl) nO_push (n_putA dX10_init_109 (nO_get hb) fn_X10_74 (by rw [hF]; decide) rfl (nO_set hb) ?_)))
  refine n_iconst dX10_init_112 (v := 0) rfl (n_istore_n dX10_init_113 rfl (by decide) rfl ?_)
  rw [← nO_push]
  have q1 := nO_len (ci := 10) (fs := ((((((((((dX10).set 0 (.ref (b + 1 + 0))).set 1 (.ref (b + 1 + (0 + 15)))).set 2 (.ref (b + 1 + ((0 + 15) + 12)))).set 3 (.ref (b + 1 + (((0 + 15) + 12) + 31)))).set 4 (.ref (b + 1 + ((((0 + 15) + 12) + 31) + 65)))).set 5 (.ref (b + 1 + (((((0 + 15) + 12) + 31) + 65) + 8)))).set 7 (.ref (b + 1 + ((((((0 + 15) + 12) + 31) + 65) + 8) + 4)))).set 8 (.ref (b + 1 + (((((((0 + 15) + 12) + 31) + 65) + 8) + 4) + 8)))).set 9 (.ref (b + 1 + ((((((((0 + 15) + 12) + 31) + 65) + 8) + 4) + 8) + 5)))).set 10 (.ref (b + 1 + (((((((((0 + 15) + 12) + 31) + 65) + 8) + 4) + 8) + 5) + 2)))) hb hR
  have q2 := nO_get (ci := 10) (fs := ((((((((((dX10).set 0 (.ref (b + 1 + 0))).set 1 (.ref (b + 1 + (0 + 15)))).set 2 (.ref (b + 1 + ((0 + 15) + 12)))).set 3 (.ref (b + 1 + (((0 + 15) + 12) + 31)))).set 4 (.ref (b + 1 + ((((0 + 15) + 12) + 31) + 65)))).set 5 (.ref (b + 1 + (((((0 + 15) + 12) + 31) + 65) + 8)))).set 7 (.ref (b + 1 + ((((((0 + 15) + 12) + 31) + 65) + 8) + 4)))).set 8 (.ref (b + 1 + (((((((0 + 15) + 12) + 31) + 65) + 8) + 4) + 8)))).set 9 (.ref (b + 1 + ((((((((0 + 15) + 12) + 31) + 65) + 8) + 4) + 8) + 5)))).set 10 (.ref (b + 1 + (((((((((0 + 15) + 12) + 31) + 65) + 8) + 4) + 8) + 5) + 2)))) (Rr := (((((((((([] : List va_E) ++ tX6 E.2.2.1 (b + 1 + 0)) ++ tX3 E.2.2.1 (b + 1 + (0 + 15))) ++ tX1 E.2.2.1 (b + 1 + ((0 + 15) + 12))) ++ tX4 E.2.2.1 (b + 1 + (((0 + 15) + 12) + 31))) ++ tX9 E.2.2.1 (b + 1 + ((((0 + 15) + 12) + 31) + 65))) ++ tX5 E.2.2.1 (b + 1 + (((((0 + 15) + 12) + 31) + 65) + 8))) ++ tX2 E.2.2.1 (b + 1 + ((((((0 + 15) + 12) + 31) + 65) + 8) + 4))) ++ tX8 E.2.2.1 (b + 1 + (((((((0 + 15) + 12) + 31) + 65) + 8) + 4) + 8))) ++ tX0 E.2.2.1 (b + 1 + ((((((((0 + 15) + 12) + 31) + 65) + 8) + 4) + 8) + 5)))) hb
  have q3 := kX10l (E := E) (K := 167) (N := 10010) (b := b) q1 q2 (by rfl) (by omega) 8 0
  simp only [frw_0] at q3
  show nG E mX10_init 167 10010 114 _ _ _ _ _ none (nO Pm 10 (fX10c b) (rX10c E.2.2.1 b ++ (.inl (E.2.2.1 4, 8, .inr (.inr (.inr (.inr (fun q => some (b + 1 + (((((((((0 + 15) + 12) + 31) + 65) + 8) + 4) + 8) + 5) + 2) + 1 + 2 * q)))))) :: rws E.2.2.1 (b + 1 + (((((((((0 + 15) + 12) + 31) + 65) + 8) + 4) + 8) + 5) + 2)) 8)))
  rw [← nO_app (Rr := rX10c E.2.2.1 b)]
  refine q3 _ _ (by first | trivial | decide) ?_ ?_
  · exact Nat.le_of_ble_eq_true rfl
  · exact Nat.le_of_ble_eq_true rfl


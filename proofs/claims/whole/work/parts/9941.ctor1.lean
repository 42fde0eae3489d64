section NR
variable {E : gE} {M : gM} {K N kc nc pc : Nat} {lv : List (Nat × Value)} {st : List Value} {Mm M' : List va_E} {r : Option Value}
theorem n_iconst {n : Int} {v : Int32} (hd : decode M.2.1 pc = .ok (.iconst n, 1)) (hv : Int32.ofInt n = v) (k : nG E M K N (pc + 1) lv (.int v :: st) Mm kc nc r M') : nG E M K N pc lv (st) Mm kc nc r M' :=
  fun p e R s m args below meth c H locs ls F hP hS hl => lv_iconst F.1 F.2.1 hd hv (k p e R s m args below meth c H locs ls F hP hS hl)
theorem n_bipush {n : Int} {v : Int32} (hd : decode M.2.1 pc = .ok (.bipush n, 2)) (hv : (Int8.ofInt n).toInt32 = v) (k : nG E M K N (pc + 2) lv (.int v :: st) Mm kc nc r M') : nG E M K N pc lv (st) Mm kc nc r M' :=
  fun p e R s m args below meth c H locs ls F hP hS hl => lv_bipush F.1 F.2.1 hd hv (k p e R s m args below meth c H locs ls F hP hS hl)
theorem n_sipush {n : Int} {v : Int32} (hd : decode M.2.1 pc = .ok (.sipush n, 3)) (hv : (Int16.ofInt n).toInt32 = v) (k : nG E M K N (pc + 3) lv (.int v :: st) Mm kc nc r M') : nG E M K N pc lv (st) Mm kc nc r M' :=
  fun p e R s m args below meth c H locs ls F hP hS hl => lv_sipush F.1 F.2.1 hd hv (k p e R s m args below meth c H locs ls F hP hS hl)
theorem n_lconst {n : Fin 2} {v : Int64} (hd : decode M.2.1 pc = .ok (.lconst n, 1)) (hv : Int64.ofNat (n : Nat) = v) (k : nG E M K N (pc + 1) lv (.long v :: st) Mm kc nc r M') : nG E M K N pc lv (st) Mm kc nc r M' :=
  fun p e R s m args below meth c H locs ls F hP hS hl => lv_lconst F.1 F.2.1 hd hv (k p e R s m args below meth c H locs ls F hP hS hl)
theorem n_iadd {x y : Int32} (hd : decode M.2.1 pc = .ok (.iadd, 1)) (k : nG E M K N (pc + 1) lv (.int (x + y) :: st) Mm kc nc r M') : nG E M K N pc lv (.int y :: .int x :: st) Mm kc nc r M' :=
  fun p e R s m args below meth c H locs ls F hP hS hl => lv_iadd F.1 F.2.1 hd (k p e R s m args below meth c H locs ls F hP hS hl)
theorem n_isub {x y : Int32} (hd : decode M.2.1 pc = .ok (.isub, 1)) (k : nG E M K N (pc + 1) lv (.int (x - y) :: st) Mm kc nc r M') : nG E M K N pc lv (.int y :: .int x :: st) Mm kc nc r M' :=
  fun p e R s m args below meth c H locs ls F hP hS hl => lv_isub F.1 F.2.1 hd (k p e R s m args below meth c H locs ls F hP hS hl)
theorem n_imul {x y : Int32} (hd : decode M.2.1 pc = .ok (.imul, 1)) (k : nG E M K N (pc + 1) lv (.int (x * y) :: st) Mm kc nc r M') : nG E M K N pc lv (.int y :: .int x :: st) Mm kc nc r M' :=
  fun p e R s m args below meth c H locs ls F hP hS hl => lv_imul F.1 F.2.1 hd (k p e R s m args below meth c H locs ls F hP hS hl)
theorem n_iand {x y : Int32} (hd : decode M.2.1 pc = .ok (.iand, 1)) (k : nG E M K N (pc + 1) lv (.int (x &&& y) :: st) Mm kc nc r M') : nG E M K N pc lv (.int y :: .int x :: st) Mm kc nc r M' :=
  fun p e R s m args below meth c H locs ls F hP hS hl => lv_iand F.1 F.2.1 hd (k p e R s m args below meth c H locs ls F hP hS hl)
theorem n_ior {x y : Int32} (hd : decode M.2.1 pc = .ok (.ior, 1)) (k : nG E M K N (pc + 1) lv (.int (x ||| y) :: st) Mm kc nc r M') : nG E M K N pc lv (.int y :: .int x :: st) Mm kc nc r M' :=
  fun p e R s m args below meth c H locs ls F hP hS hl => lv_ior F.1 F.2.1 hd (k p e R s m args below meth c H locs ls F hP hS hl)
theorem n_ixor {x y : Int32} (hd : decode M.2.1 pc = .ok (.ixor, 1)) (k : nG E M K N (pc + 1) lv (.int (x ^^^ y) :: st) Mm kc nc r M') : nG E M K N pc lv (.int y :: .int x :: st) Mm kc nc r M' :=
  fun p e R s m args below meth c H locs ls F hP hS hl => lv_ixor F.1 F.2.1 hd (k p e R s m args below meth c H locs ls F hP hS hl)
theorem n_ishl {x y : Int32} (hd : decode M.2.1 pc = .ok (.ishl, 1)) (k : nG E M K N (pc + 1) lv (.int (x <<< (y &&& 31)) :: st) Mm kc nc r M') : nG E M K N pc lv (.int y :: .int x :: st) Mm kc nc r M' :=
  fun p e R s m args below meth c H locs ls F hP hS hl => lv_ishl F.1 F.2.1 hd (k p e R s m args below meth c H locs ls F hP hS hl)
theorem n_ishr {x y : Int32} (hd : decode M.2.1 pc = .ok (.ishr, 1)) (k : nG E M K N (pc + 1) lv (.int (x >>> (y &&& 31)) :: st) Mm kc nc r M') : nG E M K N pc lv (.int y :: .int x :: st) Mm kc nc r M' :=
  fun p e R s m args below meth c H locs ls F hP hS hl => lv_ishr F.1 F.2.1 hd (k p e R s m args below meth c H locs ls F hP hS hl)
theorem n_ladd {x y : Int64} (hd : decode M.2.1 pc = .ok (.ladd, 1)) (k : nG E M K N (pc + 1) lv (.long (x + y) :: st) Mm kc nc r M') : nG E M K N pc lv (.long y :: .long x :: st) Mm kc nc r M' :=
  fun p e R s m args below meth c H locs ls F hP hS hl => lv_ladd F.1 F.2.1 hd (k p e R s m args below meth c H locs ls F hP hS hl)
theorem n_lsub {x y : Int64} (hd : decode M.2.1 pc = .ok (.lsub, 1)) (k : nG E M K N (pc + 1) lv (.long (x - y) :: st) Mm kc nc r M') : nG E M K N pc lv (.long y :: .long x :: st) Mm kc nc r M' :=
  fun p e R s m args below meth c H locs ls F hP hS hl => lv_lsub F.1 F.2.1 hd (k p e R s m args below meth c H locs ls F hP hS hl)
theorem n_lmul {x y : Int64} (hd : decode M.2.1 pc = .ok (.lmul, 1)) (k : nG E M K N (pc + 1) lv (.long (x * y) :: st) Mm kc nc r M') : nG E M K N pc lv (.long y :: .long x :: st) Mm kc nc r M' :=
  fun p e R s m args below meth c H locs ls F hP hS hl => lv_lmul F.1 F.2.1 hd (k p e R s m args below meth c H locs ls F hP hS hl)
theorem n_land {x y : Int64} (hd : decode M.2.1 pc = .ok (.land, 1)) (k : nG E M K N (pc + 1) lv (.long (x &&& y) :: st) Mm kc nc r M') : nG E M K N pc lv (.long y :: .long x :: st) Mm kc nc r M' :=
  fun p e R s m args below meth c H locs ls F hP hS hl => lv_land F.1 F.2.1 hd (k p e R s m args below meth c H locs ls F hP hS hl)
theorem n_lor {x y : Int64} (hd : decode M.2.1 pc = .ok (.lor, 1)) (k : nG E M K N (pc + 1) lv (.long (x ||| y) :: st) Mm kc nc r M') : nG E M K N pc lv (.long y :: .long x :: st) Mm kc nc r M' :=
  fun p e R s m args below meth c H locs ls F hP hS hl => lv_lor F.1 F.2.1 hd (k p e R s m args below meth c H locs ls F hP hS hl)
theorem n_lxor {x y : Int64} (hd : decode M.2.1 pc = .ok (.lxor, 1)) (k : nG E M K N (pc + 1) lv (.long (x ^^^ y) :: st) Mm kc nc r M') : nG E M K N pc lv (.long y :: .long x :: st) Mm kc nc r M' :=
  fun p e R s m args below meth c H locs ls F hP hS hl => lv_lxor F.1 F.2.1 hd (k p e R s m args below meth c H locs ls F hP hS hl)
theorem n_idiv {x y : Int32} (hd : decode M.2.1 pc = .ok (.idiv, 1)) (hn : ¬ y = 0) (k : nG E M K N (pc + 1) lv (.int (x / y) :: st) Mm kc nc r M') : nG E M K N pc lv (.int y :: .int x :: st) Mm kc nc r M' :=
  fun p e R s m args below meth c H locs ls F hP hS hl => lv_idiv F.1 F.2.1 hd hn (k p e R s m args below meth c H locs ls F hP hS hl)
theorem n_irem {x y : Int32} (hd : decode M.2.1 pc = .ok (.irem, 1)) (hn : ¬ y = 0) (k : nG E M K N (pc + 1) lv (.int (x - x / y * y) :: st) Mm kc nc r M') : nG E M K N pc lv (.int y :: .int x :: st) Mm kc nc r M' :=
  fun p e R s m args below meth c H locs ls F hP hS hl => lv_irem F.1 F.2.1 hd hn (k p e R s m args below meth c H locs ls F hP hS hl)
theorem n_ldiv {x y : Int64} (hd : decode M.2.1 pc = .ok (.ldiv, 1)) (hn : ¬ y = 0) (k : nG E M K N (pc + 1) lv (.long (x / y) :: st) Mm kc nc r M') : nG E M K N pc lv (.long y :: .long x :: st) Mm kc nc r M' :=
  fun p e R s m args below meth c H locs ls F hP hS hl => lv_ldiv F.1 F.2.1 hd hn (k p e R s m args below meth c H locs ls F hP hS hl)
theorem n_lrem {x y : Int64} (hd : decode M.2.1 pc = .ok (.lrem, 1)) (hn : ¬ y = 0) (k : nG E M K N (pc + 1) lv (.long (x - x / y * y) :: st) Mm kc nc r M') : nG E M K N pc lv (.long y :: .long x :: st) Mm kc nc r M' :=
  fun p e R s m args below meth c H locs ls F hP hS hl => lv_lrem F.1 F.2.1 hd hn (k p e R s m args below meth c H locs ls F hP hS hl)
theorem n_ineg {x : Int32} (hd : decode M.2.1 pc = .ok (.ineg, 1)) (k : nG E M K N (pc + 1) lv (.int (-x) :: st) Mm kc nc r M') : nG E M K N pc lv (.int x :: st) Mm kc nc r M' :=
  fun p e R s m args below meth c H locs ls F hP hS hl => lv_ineg F.1 F.2.1 hd (k p e R s m args below meth c H locs ls F hP hS hl)
theorem n_lneg {x : Int64} (hd : decode M.2.1 pc = .ok (.lneg, 1)) (k : nG E M K N (pc + 1) lv (.long (-x) :: st) Mm kc nc r M') : nG E M K N pc lv (.long x :: st) Mm kc nc r M' :=
  fun p e R s m args below meth c H locs ls F hP hS hl => lv_lneg F.1 F.2.1 hd (k p e R s m args below meth c H locs ls F hP hS hl)
theorem n_i2l {x : Int32} (hd : decode M.2.1 pc = .ok (.i2l, 1)) (k : nG E M K N (pc + 1) lv (.long x.toInt64 :: st) Mm kc nc r M') : nG E M K N pc lv (.int x :: st) Mm kc nc r M' :=
  fun p e R s m args below meth c H locs ls F hP hS hl => lv_i2l F.1 F.2.1 hd rfl (k p e R s m args below meth c H locs ls F hP hS hl)
theorem n_l2i {x : Int64} (hd : decode M.2.1 pc = .ok (.l2i, 1)) (k : nG E M K N (pc + 1) lv (.int x.toInt32 :: st) Mm kc nc r M') : nG E M K N pc lv (.long x :: st) Mm kc nc r M' :=
  fun p e R s m args below meth c H locs ls F hP hS hl => lv_l2i F.1 F.2.1 hd rfl (k p e R s m args below meth c H locs ls F hP hS hl)
theorem n_i2b {x : Int32} (hd : decode M.2.1 pc = .ok (.i2b, 1)) (k : nG E M K N (pc + 1) lv (.int x.toInt8.toInt32 :: st) Mm kc nc r M') : nG E M K N pc lv (.int x :: st) Mm kc nc r M' :=
  fun p e R s m args below meth c H locs ls F hP hS hl => lv_i2b F.1 F.2.1 hd rfl (k p e R s m args below meth c H locs ls F hP hS hl)
theorem n_i2s {x : Int32} (hd : decode M.2.1 pc = .ok (.i2s, 1)) (k : nG E M K N (pc + 1) lv (.int x.toInt16.toInt32 :: st) Mm kc nc r M') : nG E M K N pc lv (.int x :: st) Mm kc nc r M' :=
  fun p e R s m args below meth c H locs ls F hP hS hl => lv_i2s F.1 F.2.1 hd rfl (k p e R s m args below meth c H locs ls F hP hS hl)
theorem n_lshl {x : Int64} {y : Int32} (hd : decode M.2.1 pc = .ok (.lshl, 1)) (k : nG E M K N (pc + 1) lv (.long (x <<< (y.toInt64 &&& 63)) :: st) Mm kc nc r M') : nG E M K N pc lv (.int y :: .long x :: st) Mm kc nc r M' :=
  fun p e R s m args below meth c H locs ls F hP hS hl => lv_lshl F.1 F.2.1 hd rfl (k p e R s m args below meth c H locs ls F hP hS hl)
theorem n_lshr {x : Int64} {y : Int32} (hd : decode M.2.1 pc = .ok (.lshr, 1)) (k : nG E M K N (pc + 1) lv (.long (x >>> (y.toInt64 &&& 63)) :: st) Mm kc nc r M') : nG E M K N pc lv (.int y :: .long x :: st) Mm kc nc r M' :=
  fun p e R s m args below meth c H locs ls F hP hS hl => lv_lshr F.1 F.2.1 hd rfl (k p e R s m args below meth c H locs ls F hP hS hl)
theorem n_lushr {x : Int64} {y : Int32} (hd : decode M.2.1 pc = .ok (.lushr, 1)) (k : nG E M K N (pc + 1) lv (.long ((x.toUInt64 >>> (y.toInt64.toUInt64 &&& Int64.toUInt64 63)).toInt64) :: st) Mm kc nc r M') : nG E M K N pc lv (.int y :: .long x :: st) Mm kc nc r M' :=
  fun p e R s m args below meth c H locs ls F hP hS hl => lv_lushr F.1 F.2.1 hd rfl (k p e R s m args below meth c H locs ls F hP hS hl)
theorem n_lcmp {x y : Int64} (hd : decode M.2.1 pc = .ok (.lcmp, 1)) (k : nG E M K N (pc + 1) lv (.int (lg_cmp x y) :: st) Mm kc nc r M') : nG E M K N pc lv (.long y :: .long x :: st) Mm kc nc r M' :=
  fun p e R s m args below meth c H locs ls F hP hS hl => W.lcmp F.1 F.2.1 hd (k p e R s m args below meth c H locs ls F hP hS hl)
theorem n_dup {va : Value} (hd : decode M.2.1 pc = .ok (.dup, 1)) (hva : va.category = 1) (k : nG E M K N (pc + 1) lv (va :: va :: st) Mm kc nc r M') : nG E M K N pc lv (va :: st) Mm kc nc r M' :=
  fun p e R s m args below meth c H locs ls F hP hS hl => lv_dup F.1 F.2.1 hd ((gv_cat _ _).trans hva) (k p e R s m args below meth c H locs ls F hP hS hl)
theorem n_pop {va : Value} (hd : decode M.2.1 pc = .ok (.pop, 1)) (hva : va.category = 1) (k : nG E M K N (pc + 1) lv (st) Mm kc nc r M') : nG E M K N pc lv (va :: st) Mm kc nc r M' :=
  fun p e R s m args below meth c H locs ls F hP hS hl => lv_pop F.1 F.2.1 hd ((gv_cat _ _).trans hva) (k p e R s m args below meth c H locs ls F hP hS hl)
theorem n_pop2 {va : Value} (hd : decode M.2.1 pc = .ok (.pop2, 1)) (hva : va.category = 2) (k : nG E M K N (pc + 1) lv (st) Mm kc nc r M') : nG E M K N pc lv (va :: st) Mm kc nc r M' :=
  fun p e R s m args below meth c H locs ls F hP hS hl => lv_pop2_2 F.1 F.2.1 hd ((gv_cat _ _).trans hva) (k p e R s m args below meth c H locs ls F hP hS hl)
theorem n_dup2 {va vb : Value} (hd : decode M.2.1 pc = .ok (.dup2, 1)) (hva : va.category = 1) (hvb : vb.category = 1) (k : nG E M K N (pc + 1) lv (va :: vb :: va :: vb :: st) Mm kc nc r M') : nG E M K N pc lv (va :: vb :: st) Mm kc nc r M' :=
  fun p e R s m args below meth c H locs ls F hP hS hl => lv_dup2_11 F.1 F.2.1 hd ((gv_cat _ _).trans hva) ((gv_cat _ _).trans hvb) (k p e R s m args below meth c H locs ls F hP hS hl)
theorem n_dup2L {va : Value} (hd : decode M.2.1 pc = .ok (.dup2, 1)) (hva : va.category = 2) (k : nG E M K N (pc + 1) lv (va :: va :: st) Mm kc nc r M') : nG E M K N pc lv (va :: st) Mm kc nc r M' :=
  fun p e R s m args below meth c H locs ls F hP hS hl => lv_dup2_2 F.1 F.2.1 hd ((gv_cat _ _).trans hva) (k p e R s m args below meth c H locs ls F hP hS hl)
theorem n_dup_x1 {va vb : Value} (hd : decode M.2.1 pc = .ok (.dup_x1, 1)) (hva : va.category = 1) (hvb : vb.category = 1) (k : nG E M K N (pc + 1) lv (va :: vb :: va :: st) Mm kc nc r M') : nG E M K N pc lv (va :: vb :: st) Mm kc nc r M' :=
  fun p e R s m args below meth c H locs ls F hP hS hl => lv_dup_x1 F.1 F.2.1 hd ((gv_cat _ _).trans hva) ((gv_cat _ _).trans hvb) (k p e R s m args below meth c H locs ls F hP hS hl)
theorem n_iload_n {q : Fin 4} {i : Nat} {x : Int32} (hd : decode M.2.1 pc = .ok (.iload_n q, 1)) (hi : (q : Nat) = i) (j : Nat) (hj : lv[j]? = some (i, .int x)) (k : nG E M K N (pc + 1) lv (.int x :: st) Mm kc nc r M') : nG E M K N pc lv st Mm kc nc r M' :=
  fun p e R s m args below meth c H locs ls F hP hS hl => lv_iload_n F.1 F.2.1 hd hi (lv_at hl j (gl_at hj)) (k p e R s m args below meth c H locs ls F hP hS hl)
theorem n_iload {i : Nat} {x : Int32} (hd : decode M.2.1 pc = .ok (.iload i, 2)) (j : Nat) (hj : lv[j]? = some (i, .int x)) (k : nG E M K N (pc + 2) lv (.int x :: st) Mm kc nc r M') : nG E M K N pc lv st Mm kc nc r M' :=
  fun p e R s m args below meth c H locs ls F hP hS hl => lv_iload F.1 F.2.1 hd (lv_at hl j (gl_at hj)) (k p e R s m args below meth c H locs ls F hP hS hl)
theorem n_istore_n {q : Fin 4} {i : Nat} {x : Int32} {lv' : List (Nat × Value)} (hd : decode M.2.1 pc = .ok (.istore_n q, 1)) (hi : (q : Nat) = i) (hn : i < M.2.2.2.1) (h : (i, (.int x : Value)) :: lv.filter (fun q => !(q.1 == i) && !(q.1 + 1 == i && q.2.category == 2)) = lv') (k : nG E M K N (pc + 1) lv' st Mm kc nc r M') : nG E M K N pc lv (.int x :: st) Mm kc nc r M' :=
  fun p e R s m args below meth c H locs ls F hP hS hl => lv_istore_n (lv' := gl E.2.2.2 lv') F.1 F.2.1 hd hi hl hn (by rw [gl_f1, ← h]; rfl) (fun ls hl => k p e R s m args below meth c H locs ls F hP hS hl)
theorem n_istore {i : Nat} {x : Int32} {lv' : List (Nat × Value)} (hd : decode M.2.1 pc = .ok (.istore i, 2)) (hn : i < M.2.2.2.1) (h : (i, (.int x : Value)) :: lv.filter (fun q => !(q.1 == i) && !(q.1 + 1 == i && q.2.category == 2)) = lv') (k : nG E M K N (pc + 2) lv' st Mm kc nc r M') : nG E M K N pc lv (.int x :: st) Mm kc nc r M' :=
  fun p e R s m args below meth c H locs ls F hP hS hl => lv_istore (lv' := gl E.2.2.2 lv') F.1 F.2.1 hd hl hn (by rw [gl_f1, ← h]; rfl) (fun ls hl => k p e R s m args below meth c H locs ls F hP hS hl)
theorem n_lload_n {q : Fin 4} {i : Nat} {x : Int64} (hd : decode M.2.1 pc = .ok (.lload_n q, 1)) (hi : (q : Nat) = i) (j : Nat) (hj : lv[j]? = some (i, .long x)) (k : nG E M K N (pc + 1) lv (.long x :: st) Mm kc nc r M') : nG E M K N pc lv st Mm kc nc r M' :=
  fun p e R s m args below meth c H locs ls F hP hS hl => lv_lload_n F.1 F.2.1 hd hi (lv_at hl j (gl_at hj)) (k p e R s m args below meth c H locs ls F hP hS hl)
theorem n_lload {i : Nat} {x : Int64} (hd : decode M.2.1 pc = .ok (.lload i, 2)) (j : Nat) (hj : lv[j]? = some (i, .long x)) (k : nG E M K N (pc + 2) lv (.long x :: st) Mm kc nc r M') : nG E M K N pc lv st Mm kc nc r M' :=
  fun p e R s m args below meth c H locs ls F hP hS hl => lv_lload F.1 F.2.1 hd (lv_at hl j (gl_at hj)) (k p e R s m args below meth c H locs ls F hP hS hl)
theorem n_lstore_n {q : Fin 4} {i : Nat} {x : Int64} {lv' : List (Nat × Value)} (hd : decode M.2.1 pc = .ok (.lstore_n q, 1)) (hi : (q : Nat) = i) (hn : i + 1 < M.2.2.2.1) (h : (i, (.long x : Value)) :: lv.filter (fun q => !(q.1 == i) && (!(q.1 == i + 1) && !(q.1 + 1 == i && q.2.category == 2))) = lv') (k : nG E M K N (pc + 1) lv' st Mm kc nc r M') : nG E M K N pc lv (.long x :: st) Mm kc nc r M' :=
  fun p e R s m args below meth c H locs ls F hP hS hl => lv_lstore_n (lv' := gl E.2.2.2 lv') F.1 F.2.1 hd hi hl hn (by rw [gl_f2, ← h]; rfl) (fun ls hl => k p e R s m args below meth c H locs ls F hP hS hl)
theorem n_lstore {i : Nat} {x : Int64} {lv' : List (Nat × Value)} (hd : decode M.2.1 pc = .ok (.lstore i, 2)) (hn : i + 1 < M.2.2.2.1) (h : (i, (.long x : Value)) :: lv.filter (fun q => !(q.1 == i) && (!(q.1 == i + 1) && !(q.1 + 1 == i && q.2.category == 2))) = lv') (k : nG E M K N (pc + 2) lv' st Mm kc nc r M') : nG E M K N pc lv (.long x :: st) Mm kc nc r M' :=
  fun p e R s m args below meth c H locs ls F hP hS hl => lv_lstore (lv' := gl E.2.2.2 lv') F.1 F.2.1 hd hl hn (by rw [gl_f2, ← h]; rfl) (fun ls hl => k p e R s m args below meth c H locs ls F hP hS hl)
theorem n_aload_n {q : Fin 4} {i : Nat} {x : Nat} (hd : decode M.2.1 pc = .ok (.aload_n q, 1)) (hi : (q : Nat) = i) (j : Nat) (hj : lv[j]? = some (i, .ref x)) (k : nG E M K N (pc + 1) lv (.ref x :: st) Mm kc nc r M') : nG E M K N pc lv st Mm kc nc r M' :=
  fun p e R s m args below meth c H locs ls F hP hS hl => lv_aload_n F.1 F.2.1 hd hi (lv_at hl j (gl_at hj)) (k p e R s m args below meth c H locs ls F hP hS hl)
theorem n_aload {i : Nat} {x : Nat} (hd : decode M.2.1 pc = .ok (.aload i, 2)) (j : Nat) (hj : lv[j]? = some (i, .ref x)) (k : nG E M K N (pc + 2) lv (.ref x :: st) Mm kc nc r M') : nG E M K N pc lv st Mm kc nc r M' :=
  fun p e R s m args below meth c H locs ls F hP hS hl => lv_aload F.1 F.2.1 hd (lv_at hl j (gl_at hj)) (k p e R s m args below meth c H locs ls F hP hS hl)
theorem n_astore_n {q : Fin 4} {i : Nat} {x : Nat} {lv' : List (Nat × Value)} (hd : decode M.2.1 pc = .ok (.astore_n q, 1)) (hi : (q : Nat) = i) (hn : i < M.2.2.2.1) (h : (i, (.ref x : Value)) :: lv.filter (fun q => !(q.1 == i) && !(q.1 + 1 == i && q.2.category == 2)) = lv') (k : nG E M K N (pc + 1) lv' st Mm kc nc r M') : nG E M K N pc lv (.ref x :: st) Mm kc nc r M' :=
  fun p e R s m args below meth c H locs ls F hP hS hl => lv_astore_n (lv' := gl E.2.2.2 lv') F.1 F.2.1 hd hi hl hn (by rw [gl_f1, ← h]; rfl) (fun ls hl => k p e R s m args below meth c H locs ls F hP hS hl)
theorem n_astore {i : Nat} {x : Nat} {lv' : List (Nat × Value)} (hd : decode M.2.1 pc = .ok (.astore i, 2)) (hn : i < M.2.2.2.1) (h : (i, (.ref x : Value)) :: lv.filter (fun q => !(q.1 == i) && !(q.1 + 1 == i && q.2.category == 2)) = lv') (k : nG E M K N (pc + 2) lv' st Mm kc nc r M') : nG E M K N pc lv (.ref x :: st) Mm kc nc r M' :=
  fun p e R s m args below meth c H locs ls F hP hS hl => lv_astore (lv' := gl E.2.2.2 lv') F.1 F.2.1 hd hl hn (by rw [gl_f1, ← h]; rfl) (fun ls hl => k p e R s m args below meth c H locs ls F hP hS hl)
theorem n_iinc {i j : Nat} {n : Int} {x v : Int32} {lv' : List (Nat × Value)} (hd : decode M.2.1 pc = .ok (.iinc i n, 3)) (hj : lv[j]? = some (i, .int x)) (hv : x + Int32.ofInt n = v) (hn : i < M.2.2.2.1) (h : (i, (.int v : Value)) :: lv.filter (fun q => !(q.1 == i) && !(q.1 + 1 == i && q.2.category == 2)) = lv') (k : nG E M K N (pc + 3) lv' st Mm kc nc r M') : nG E M K N pc lv st Mm kc nc r M' :=
  fun p e R s m args below meth c H locs ls F hP hS hl => lv_iinc (lv' := gl E.2.2.2 lv') (k := j) F.1 F.2.1 hd hl (gl_at hj) hv hn (by rw [gl_f1, ← h]; rfl) (fun ls hl => k p e R s m args below meth c H locs ls F hP hS hl)
theorem n_goto {off : Int} {t : Nat} (hd : decode M.2.1 pc = .ok (.goto off, 3)) (ht : (pc : Int) + off = (t : Int)) (k : nG E M K N t lv st Mm kc nc r M') : nG E M K N pc lv st Mm kc nc r M' :=
  fun p e R s m args below meth c H locs ls F hP hS hl => lv_goto F.1 F.2.1 hd ht (k p e R s m args below meth c H locs ls F hP hS hl)
theorem n_if_eq {x : Int32} {off : Int} {t : Nat} (hd : decode M.2.1 pc = .ok (.ifCond .eq off, 3)) (ht : (pc : Int) + off = (t : Int)) (kt : x = 0 → nG E M K N t lv st Mm kc nc r M') (kf : ¬ x = 0 → nG E M K N (pc + 3) lv st Mm kc nc r M') : nG E M K N pc lv (.int x :: st) Mm kc nc r M' :=
  fun p e R s m args below meth c H locs ls F hP hS hl => lv_if_eq F.1 F.2.1 hd ht (fun h => kt h p e R s m args below meth c H locs ls F hP hS hl) (fun h => kf h p e R s m args below meth c H locs ls F hP hS hl)
theorem n_icmp_eq {x y : Int32} {off : Int} {t : Nat} (hd : decode M.2.1 pc = .ok (.if_icmp .eq off, 3)) (ht : (pc : Int) + off = (t : Int)) (kt : x = y → nG E M K N t lv st Mm kc nc r M') (kf : ¬ x = y → nG E M K N (pc + 3) lv st Mm kc nc r M') : nG E M K N pc lv (.int y :: .int x :: st) Mm kc nc r M' :=
  fun p e R s m args below meth c H locs ls F hP hS hl => lv_icmp_eq F.1 F.2.1 hd ht (fun h => kt h p e R s m args below meth c H locs ls F hP hS hl) (fun h => kf h p e R s m args below meth c H locs ls F hP hS hl)
theorem n_if_ne {x : Int32} {off : Int} {t : Nat} (hd : decode M.2.1 pc = .ok (.ifCond .ne off, 3)) (ht : (pc : Int) + off = (t : Int)) (kt : ¬ x = 0 → nG E M K N t lv st Mm kc nc r M') (kf : x = 0 → nG E M K N (pc + 3) lv st Mm kc nc r M') : nG E M K N pc lv (.int x :: st) Mm kc nc r M' :=
  fun p e R s m args below meth c H locs ls F hP hS hl => lv_if_ne F.1 F.2.1 hd ht (fun h => kt h p e R s m args below meth c H locs ls F hP hS hl) (fun h => kf h p e R s m args below meth c H locs ls F hP hS hl)
theorem n_icmp_ne {x y : Int32} {off : Int} {t : Nat} (hd : decode M.2.1 pc = .ok (.if_icmp .ne off, 3)) (ht : (pc : Int) + off = (t : Int)) (kt : ¬ x = y → nG E M K N t lv st Mm kc nc r M') (kf : x = y → nG E M K N (pc + 3) lv st Mm kc nc r M') : nG E M K N pc lv (.int y :: .int x :: st) Mm kc nc r M' :=
  fun p e R s m args below meth c H locs ls F hP hS hl => lv_icmp_ne F.1 F.2.1 hd ht (fun h => kt h p e R s m args below meth c H locs ls F hP hS hl) (fun h => kf h p e R s m args below meth c H locs ls F hP hS hl)
theorem n_if_lt {x : Int32} {off : Int} {t : Nat} (hd : decode M.2.1 pc = .ok (.ifCond .lt off, 3)) (ht : (pc : Int) + off = (t : Int)) (kt : x < 0 → nG E M K N t lv st Mm kc nc r M') (kf : ¬ x < 0 → nG E M K N (pc + 3) lv st Mm kc nc r M') : nG E M K N pc lv (.int x :: st) Mm kc nc r M' :=
  fun p e R s m args below meth c H locs ls F hP hS hl => lv_if_lt F.1 F.2.1 hd ht (fun h => kt h p e R s m args below meth c H locs ls F hP hS hl) (fun h => kf h p e R s m args below meth c H locs ls F hP hS hl)
theorem n_icmp_lt {x y : Int32} {off : Int} {t : Nat} (hd : decode M.2.1 pc = .ok (.if_icmp .lt off, 3)) (ht : (pc : Int) + off = (t : Int)) (kt : x < y → nG E M K N t lv st Mm kc nc r M') (kf : ¬ x < y → nG E M K N (pc + 3) lv st Mm kc nc r M') : nG E M K N pc lv (.int y :: .int x :: st) Mm kc nc r M' :=
  fun p e R s m args below meth c H locs ls F hP hS hl => lv_icmp_lt F.1 F.2.1 hd ht (fun h => kt h p e R s m args below meth c H locs ls F hP hS hl) (fun h => kf h p e R s m args below meth c H locs ls F hP hS hl)
theorem n_if_ge {x : Int32} {off : Int} {t : Nat} (hd : decode M.2.1 pc = .ok (.ifCond .ge off, 3)) (ht : (pc : Int) + off = (t : Int)) (kt : 0 ≤ x → nG E M K N t lv st Mm kc nc r M') (kf : ¬ 0 ≤ x → nG E M K N (pc + 3) lv st Mm kc nc r M') : nG E M K N pc lv (.int x :: st) Mm kc nc r M' :=
  fun p e R s m args below meth c H locs ls F hP hS hl => lv_if_ge F.1 F.2.1 hd ht (fun h => kt h p e R s m args below meth c H locs ls F hP hS hl) (fun h => kf h p e R s m args below meth c H locs ls F hP hS hl)
theorem n_icmp_ge {x y : Int32} {off : Int} {t : Nat} (hd : decode M.2.1 pc = .ok (.if_icmp .ge off, 3)) (ht : (pc : Int) + off = (t : Int)) (kt : y ≤ x → nG E M K N t lv st Mm kc nc r M') (kf : ¬ y ≤ x → nG E M K N (pc + 3) lv st Mm kc nc r M') : nG E M K N pc lv (.int y :: .int x :: st) Mm kc nc r M' :=
  fun p e R s m args below meth c H locs ls F hP hS hl => lv_icmp_ge F.1 F.2.1 hd ht (fun h => kt h p e R s m args below meth c H locs ls F hP hS hl) (fun h => kf h p e R s m args below meth c H locs ls F hP hS hl)
theorem n_if_gt {x : Int32} {off : Int} {t : Nat} (hd : decode M.2.1 pc = .ok (.ifCond .gt off, 3)) (ht : (pc : Int) + off = (t : Int)) (kt : 0 < x → nG E M K N t lv st Mm kc nc r M') (kf : ¬ 0 < x → nG E M K N (pc + 3) lv st Mm kc nc r M') : nG E M K N pc lv (.int x :: st) Mm kc nc r M' :=
  fun p e R s m args below meth c H locs ls F hP hS hl => lv_if_gt F.1 F.2.1 hd ht (fun h => kt h p e R s m args below meth c H locs ls F hP hS hl) (fun h => kf h p e R s m args below meth c H locs ls F hP hS hl)
theorem n_icmp_gt {x y : Int32} {off : Int} {t : Nat} (hd : decode M.2.1 pc = .ok (.if_icmp .gt off, 3)) (ht : (pc : Int) + off = (t : Int)) (kt : y < x → nG E M K N t lv st Mm kc nc r M') (kf : ¬ y < x → nG E M K N (pc + 3) lv st Mm kc nc r M') : nG E M K N pc lv (.int y :: .int x :: st) Mm kc nc r M' :=
  fun p e R s m args below meth c H locs ls F hP hS hl => lv_icmp_gt F.1 F.2.1 hd ht (fun h => kt h p e R s m args below meth c H locs ls F hP hS hl) (fun h => kf h p e R s m args below meth c H locs ls F hP hS hl)
theorem n_if_le {x : Int32} {off : Int} {t : Nat} (hd : decode M.2.1 pc = .ok (.ifCond .le off, 3)) (ht : (pc : Int) + off = (t : Int)) (kt : x ≤ 0 → nG E M K N t lv st Mm kc nc r M') (kf : ¬ x ≤ 0 → nG E M K N (pc + 3) lv st Mm kc nc r M') : nG E M K N pc lv (.int x :: st) Mm kc nc r M' :=
  fun p e R s m args below meth c H locs ls F hP hS hl => lv_if_le F.1 F.2.1 hd ht (fun h => kt h p e R s m args below meth c H locs ls F hP hS hl) (fun h => kf h p e R s m args below meth c H locs ls F hP hS hl)
theorem n_icmp_le {x y : Int32} {off : Int} {t : Nat} (hd : decode M.2.1 pc = .ok (.if_icmp .le off, 3)) (ht : (pc : Int) + off = (t : Int)) (kt : x ≤ y → nG E M K N t lv st Mm kc nc r M') (kf : ¬ x ≤ y → nG E M K N (pc + 3) lv st Mm kc nc r M') : nG E M K N pc lv (.int y :: .int x :: st) Mm kc nc r M' :=
  fun p e R s m args below meth c H locs ls F hP hS hl => lv_icmp_le F.1 F.2.1 hd ht (fun h => kt h p e R s m args below meth c H locs ls F hP hS hl) (fun h => kf h p e R s m args below meth c H locs ls F hP hS hl)
theorem n_vret (hd : decode M.2.1 pc = .ok (.return_, 1)) (hr : M.2.2.2.2.1 = none) (h1 : kc ≤ K) (h2 : nc ≤ N) : nG E M K N pc lv [] Mm kc nc none Mm :=
  fun p e R s m args below meth c H locs ls F hP hS hl => W.widen h1 h2 (W.vret F.1 F.2.1 (F.2.2.1.trans hr) (fun t ht _ => ⟨rfl, by rw [ht]; exact hP, hS.F ht⟩) hS.2.2 hd F.2.2.2.2.2.2.1)
theorem n_zret {v : Int32} {ty : FieldType} (hd : decode M.2.1 pc = .ok (.ireturn, 1)) (hr : M.2.2.2.2.1 = some ty) (hz : narrow ty (.int v) = .int v) : nG E M kc nc pc lv [.int v] Mm kc nc (some (.int v)) Mm :=
  fun p e R s m args below meth c H locs ls F hP hS hl => W.zret F.1 F.2.1 (F.2.2.1.trans hr) hz (fun t ht _ => ⟨rfl, by rw [ht]; exact hP, hS.F ht⟩) hS.2.2 hd F.2.2.2.2.2.2.1
theorem n_cat {st : List Value} {ad : Nat → Nat} (h : (st.map fun v => v.category).sum ≤ 8) : ((st.map (gv ad)).map fun v => v.category).sum ≤ 8 := by
  have : ((st.map (gv ad)).map fun v => v.category) = st.map fun v => v.category := by simp [Function.comp_def, gv_cat]
  rw [this]; exact h
theorem n_objInit {h idx : Nat} (hd : decode M.2.1 pc = .ok (.invokespecial idx, 3)) (hw : Cond.methodLink M.2.2.1 idx Lib.objectInit ∈ gWS ∧ Cond.instanceMethod Lib.objectInit ∈ gWS ∧ Cond.code Lib.objectInit ⟨#[0xb1]⟩ 1 none ∈ gWS) (hst : (st.map fun v => v.category).sum ≤ 8) (hfr : 1 ≤ M.2.2.2.2.2.1) (hlo : 20 ≤ M.2.2.2.2.2.2) (k : nG E M K N (pc + 3) lv st Mm kc nc r M') : nG E M K N pc lv (.ref h :: st) Mm kc nc r M' := by
  intro p e R s m args below meth c H locs ls F hP hS hl
  have hts := F.2.2.2.2.2.1
  have hw' := n_cat (ad := E.2.2.2) hst
  exact W.objInit F.1 F.2.1 F.2.2.2.2.1 (hts _ hw.1) (hts _ hw.2.1) (hts _ hw.2.2) rfl (hl.1.trans F.2.2.2.1.symm) rfl hd (Nat.le_trans hfr F.2.2.2.2.2.2.2.1) (by show 2 * 0 + _ + 12 ≤ _; have := F.2.2.2.2.2.2.2.2.1; omega) (k p e R s m args below meth c H locs ls F hP hS hl)
theorem n_new {idx nf ci : Nat} {C : String} {T : u_T} {ty : Nat → FieldType} {fs : List Value} {M2 : List va_E} {L0 : Nat} (hd : decode M.2.1 pc = .ok (.new idx, 3)) (hin : ∀ w ∈ u_ws C T nf, w ∈ gWS) (hty : ∀ k, k < nf → parseFieldDescriptor (T k).2.2.1 = some (ty k)) (hw : Cond.classLink M.2.2.1 idx C ∈ gWS ∧ Cond.instantiable C nf ∈ gWS ∧ Cond.initialized C ∈ gWS) (hc : vwCl[ci]? = some (C, T, nf)) (hfs : ∀ j, j < nf → defaultValue (ty j) = vp_V fs j) (hg : ∀ ad, fs.map (gv ad) = fs) (hL : Mm.length = L0) (hlen : L0 < gNH) (h1 : kc + 1 ≤ K) (h2 : nc + nf ≤ N) (hM : Mm ++ [.inr (ci, fs)] = M2)
    (k : nG E M K N (pc + 3) lv (.ref L0 :: st) M2 (kc + 1) (nc + nf) r M') : nG E M K N pc lv st Mm kc nc r M' := by
  intro p e R s m args below meth c H locs ls F hP hS hl
  subst hM; subst hL
  exact w_new F.1 F.2.1 F.2.2.2.2.2.1 hin hty F.2.2.2.2.1 hw F.2.2.2.2.2.2.2.2.2.1 F.2.2.2.2.2.2.2.2.2.2.2.2.1 hP hS hlen hc hfs hg (Nat.le_trans h1 F.2.2.2.2.2.2.2.2.2.2.1.1) (Nat.le_trans h2 F.2.2.2.2.2.2.2.2.2.2.1.2) hd (fun H1 hP1 hS1 => k p e R s m args below meth c H1 locs ls F hP1 hS1 hl)
theorem n_newa {atype : ArrayType} {t : Nat} {ty : FieldType} {n : Int32} {N' : Nat} {z : vp_A} {M2 : List va_E} {L0 : Nat} (hd : decode M.2.1 pc = .ok (.newarray atype, 2)) (hw : Cond.arrayClass ty ∈ gWS) (hty : newarray.typeOf atype = ty) (ht : (gT E.2.2.1)[t]? = some (E.2.2.1 t, ty)) (hra : ∀ U cA, va_RA U cA ty → U.vm.findClass ("[" ++ ty.toString) = some cA) (hz : ∀ cA : ClassId, vp_cell cA z = arrV cA N' (fun _ => defaultValue ty)) (hnc : ∀ ad cA, ncE ad (.inl (cA, z)) = .inl (cA, z)) (hn : ¬ n < 0) (hN : n.toNatClampNeg = N') (hbytes : N' * componentBytes ty ≤ 536870912) (hL : Mm.length = L0) (hlen : L0 < gNH) (h1 : kc + 1 ≤ K) (h2 : nc + N' ≤ N) (hM : Mm ++ [.inl (E.2.2.1 t, z)] = M2)
    (k : nG E M K N (pc + 2) lv (.ref L0 :: st) M2 (kc + 1) (nc + N') r M') : nG E M K N pc lv (.int n :: st) Mm kc nc r M' := by
  intro p e R s m args below meth c H locs ls F hP hS hl
  subst hM; subst hL
  exact w_newa F.1 F.2.1 F.2.2.2.2.2.1 hw hty ht hra F.2.2.2.2.2.2.2.2.2.1 F.2.2.2.2.2.2.2.2.2.2.2.2.1 hP hS hlen hz hnc hn hN hbytes (Nat.le_trans h1 F.2.2.2.2.2.2.2.2.2.2.1.1) (Nat.le_trans h2 F.2.2.2.2.2.2.2.2.2.2.1.2) hd (fun H1 hP1 hS1 => k p e R s m args below meth c H1 locs ls F hP1 hS1 hl)
theorem n_newI {n : Int32} {N' : Nat} {M2 : List va_E} {L0 : Nat} (hd : decode M.2.1 pc = .ok (.newarray .int, 2)) (hn : ¬ n < 0 ∧ n.toNatClampNeg = N' ∧ N' ≤ 10000) (hL : Mm.length = L0) (hlen : L0 < gNH) (h1 : kc + 1 ≤ K) (h2 : nc + N' ≤ N) (hM : Mm ++ [.inl (E.2.2.1 0, N', .inl (fun _ => 0))] = M2) (k : nG E M K N (pc + 2) lv (.ref L0 :: st) M2 (kc + 1) (nc + N') r M') : nG E M K N pc lv (.int n :: st) Mm kc nc r M' :=
  n_newa (t := 0) (ty := .int) hd (gm 192 (by decide +kernel) rfl) rfl rfl (fun _ _ h => h) (fun _ => rfl) (fun _ _ => rfl) hn.1 hn.2.1 (by show N' * 4 ≤ _; omega) hL hlen h1 h2 hM k
theorem n_newJ {n : Int32} {N' : Nat} {M2 : List va_E} {L0 : Nat} (hd : decode M.2.1 pc = .ok (.newarray .long, 2)) (hn : ¬ n < 0 ∧ n.toNatClampNeg = N' ∧ N' ≤ 10000) (hL : Mm.length = L0) (hlen : L0 < gNH) (h1 : kc + 1 ≤ K) (h2 : nc + N' ≤ N) (hM : Mm ++ [.inl (E.2.2.1 1, N', .inr (.inl (fun _ => 0)))] = M2) (k : nG E M K N (pc + 2) lv (.ref L0 :: st) M2 (kc + 1) (nc + N') r M') : nG E M K N pc lv (.int n :: st) Mm kc nc r M' :=
  n_newa (t := 1) (ty := .long) hd (gm 393 (by decide +kernel) rfl) rfl rfl (fun _ _ h => h) (fun _ => rfl) (fun _ _ => rfl) hn.1 hn.2.1 (by show N' * 8 ≤ _; omega) hL hlen h1 h2 hM k
theorem n_newB {n : Int32} {N' : Nat} {M2 : List va_E} {L0 : Nat} (hd : decode M.2.1 pc = .ok (.newarray .byte, 2)) (hn : ¬ n < 0 ∧ n.toNatClampNeg = N' ∧ N' ≤ 10000) (hL : Mm.length = L0) (hlen : L0 < gNH) (h1 : kc + 1 ≤ K) (h2 : nc + N' ≤ N) (hM : Mm ++ [.inl (E.2.2.1 2, N', .inl (fun _ => 0))] = M2) (k : nG E M K N (pc + 2) lv (.ref L0 :: st) M2 (kc + 1) (nc + N') r M') : nG E M K N pc lv (.int n :: st) Mm kc nc r M' :=
  n_newa (t := 2) (ty := .byte) hd (gm 191 (by decide +kernel) rfl) rfl rfl (fun _ _ h => h) (fun _ => rfl) (fun _ _ => rfl) hn.1 hn.2.1 (by show N' * 1 ≤ _; omega) hL hlen h1 h2 hM k
theorem n_newZ {n : Int32} {N' : Nat} {M2 : List va_E} {L0 : Nat} (hd : decode M.2.1 pc = .ok (.newarray .boolean, 2)) (hn : ¬ n < 0 ∧ n.toNatClampNeg = N' ∧ N' ≤ 10000) (hL : Mm.length = L0) (hlen : L0 < gNH) (h1 : kc + 1 ≤ K) (h2 : nc + N' ≤ N) (hM : Mm ++ [.inl (E.2.2.1 3, N', .inl (fun _ => 0))] = M2) (k : nG E M K N (pc + 2) lv (.ref L0 :: st) M2 (kc + 1) (nc + N') r M') : nG E M K N pc lv (.int n :: st) Mm kc nc r M' :=
  n_newa (t := 3) (ty := .boolean) hd (gm 324 (by decide +kernel) rfl) rfl rfl (fun _ _ h => h) (fun _ => rfl) (fun _ _ => rfl) hn.1 hn.2.1 (by show N' * 1 ≤ _; omega) hL hlen h1 h2 hM k
/-- a field's put in a constructor: final or not -/
def nFp (M : gM) (idx ci k : Nat) (ty : FieldType) : Prop := ∃ (C : String) (T : u_T) (N : Nat), vwCl[ci]? = some (C, T, N) ∧ k < N ∧ (∀ w ∈ u_ws C T N, w ∈ gWS) ∧ Cond.fieldLink M.2.2.1 idx (T k).1 (T k).2.1 (T k).2.2.1 ∈ gWS ∧ ((T k).2.2.2 = false ∨ ((T k).2.2.2 = true ∧ M.1.name = "<init>" ∧ (T k).1 = M.2.2.1)) ∧ parseFieldDescriptor (T k).2.2.1 = some ty ∧ (∃ ty0 : Nat → FieldType, ∀ j, j < N → parseFieldDescriptor (T j).2.2.1 = some (ty0 j)) ∧ (∀ a, a < N → ∀ b, b < N → a ≠ b → (T a).2.1 ≠ (T b).2.1)
theorem n_put {h ci k idx : Nat} {fs fs2 : List Value} {v : Value} {ty : FieldType} {M2 : List va_E} (hd : decode M.2.1 pc = .ok (.putfield idx, 3)) (hM : Mm[h]? = some (.inr (ci, fs))) (hf : nFp M idx ci k ty) (hk : k < fs.length) (hn : ∀ ad, narrow ty (gv ad v) = gv ad v ∧ fits ty (gv ad v) = true) (hfs : fs.set k v = fs2) (hM2 : Mm.set h (.inr (ci, fs2)) = M2) (kk : nG E M K N (pc + 3) lv st M2 kc nc r M') : nG E M K N pc lv (v :: .ref h :: st) Mm kc nc r M' := by
  intro p e R s m args below meth c H locs ls F hP hS hl
  subst hfs; subst hM2
  obtain ⟨C, T, Nn, hc, hkk, hin, hlk, hfin, hty, ⟨ty0, hty0⟩, hnm⟩ := hf
  have F0' := F
  obtain ⟨hx, hb, -, -, hown, hts, -, -, -, hK, -, hname, hB, -⟩ := F
  have hD := nws_D hB hP.1
  have he : (nws E.2.2.2 Mm)[h]? = some (E.2.2.2 h, .inr (ci, fs.map (gv E.2.2.2))) := nws_get hM
  have hset : (nws E.2.2.2 Mm).set h (E.2.2.2 h, .inr (ci, (fs.map (gv E.2.2.2)).set k (gv E.2.2.2 v))) = nws E.2.2.2 (Mm.set h (.inr (ci, fs.set k v))) := by
    rw [← nws_set]
    congr 2
    show _ = Sum.inr (ci, (fs.set k v).map (gv E.2.2.2))
    rw [List.map_set]
  have hlen : k < (fs.map (gv E.2.2.2)).length := by rw [List.length_map]; exact hk
  have fin : ∀ (H1 : Heap) (locs1 : List Loc), va_P E.2.1 vwCl ((nws E.2.2.2 Mm).set h (E.2.2.2 h, .inr (ci, (fs.map (gv E.2.2.2)).set k (gv E.2.2.2 v)))) H1 → H1.size = H.size → va_S (nA E) s.heap H1 locs1 → W p E.1 e R s m args below meth c H1 locs1 kc nc (MQ below (nQ E r M') args s K N (nA E)) (F0 m (pc + 3) ls (st.map (gv E.2.2.2))) := by
    intro H1 locs1 hP1 hz hS1
    exact kk p e R s m args below meth c H1 locs1 ls F0' ⟨by rw [List.length_set]; exact hP.1, by rw [hz, List.length_set]; exact hP.2.1, by rw [← hset]; exact hP1⟩ hS1 hl
  exact w_put hx hb hts hin hty0 hnm hown hK hP.2.2 hD hS he hc hkk (hts _ hlk) (hfin.imp id (fun h => ⟨h.1, hname.trans h.2.1, h.2.2⟩)) hty (hn _).1 (hn _).2 hlen hd fin
theorem n_putA {h ci k idx x : Nat} {fs fs2 : List Value} {t : FieldType} {M2 : List va_E} (hd : decode M.2.1 pc = .ok (.putfield idx, 3)) (hM : Mm[h]? = some (.inr (ci, fs))) (hf : nFp M idx ci k (.array t)) (hk : k < fs.length) (hfs : fs.set k (.ref x) = fs2) (hM2 : Mm.set h (.inr (ci, fs2)) = M2) (kk : nG E M K N (pc + 3) lv st M2 kc nc r M') : nG E M K N pc lv (.ref x :: .ref h :: st) Mm kc nc r M' :=
  n_put hd hM hf hk (fun _ => ⟨rfl, rfl⟩) hfs hM2 kk
theorem n_putO {h ci k idx x : Nat} {fs fs2 : List Value} {C : String} {M2 : List va_E} (hd : decode M.2.1 pc = .ok (.putfield idx, 3)) (hM : Mm[h]? = some (.inr (ci, fs))) (hf : nFp M idx ci k (.object C)) (hk : k < fs.length) (hfs : fs.set k (.ref x) = fs2) (hM2 : Mm.set h (.inr (ci, fs2)) = M2) (kk : nG E M K N (pc + 3) lv st M2 kc nc r M') : nG E M K N pc lv (.ref x :: .ref h :: st) Mm kc nc r M' :=
  n_put hd hM hf hk (fun _ => ⟨rfl, rfl⟩) hfs hM2 kk
theorem n_putI {h ci k idx : Nat} {x : Int32} {fs fs2 : List Value} {M2 : List va_E} (hd : decode M.2.1 pc = .ok (.putfield idx, 3)) (hM : Mm[h]? = some (.inr (ci, fs))) (hf : nFp M idx ci k .int) (hk : k < fs.length) (hfs : fs.set k (.int x) = fs2) (hM2 : Mm.set h (.inr (ci, fs2)) = M2) (kk : nG E M K N (pc + 3) lv st M2 kc nc r M') : nG E M K N pc lv (.int x :: .ref h :: st) Mm kc nc r M' :=
  n_put hd hM hf hk (fun _ => ⟨rfl, rfl⟩) hfs hM2 kk
theorem n_get {h ci k idx : Nat} {fs : List Value} {v : Value} (hd : decode M.2.1 pc = .ok (.getfield idx, 3)) (hM : Mm[h]? = some (.inr (ci, fs))) (hf : gFl M.2.2.1 idx ci k) (hv : fs[k]? = some v) (kk : nG E M K N (pc + 3) lv (v :: st) Mm kc nc r M') : nG E M K N pc lv (.ref h :: st) Mm kc nc r M' := by
  intro p e R s m args below meth c H locs ls F hP hS hl
  obtain ⟨C, T, Nn, hc, hk, hin, hlk⟩ := hf
  have he : (nws E.2.2.2 Mm)[h]? = some (E.2.2.2 h, .inr (ci, fs.map (gv E.2.2.2))) := nws_get hM
  have hk2 := kk p e R s m args below meth c H locs ls F hP hS hl
  have hval : (fs.map (gv E.2.2.2))[k]? = some (gv E.2.2.2 v) := by rw [List.getElem?_map, hv]; rfl
  obtain ⟨hx, hb, -, -, hown, hts, -, -, -, ⟨hK, hNF, -⟩, -⟩ := F
  rcases hlk with hlk | ⟨host, hlk⟩
  · exact va_get hx hb hts hin hown hK hP.2.2 h he hc k hk (hts _ hlk) (fun _ q => q) hval hd hk2
  · exact va_getN hx hb hts hin hown hK hP.2.2 h he hc k hk (va_Nw.use rfl (hNF _ hlk)) (fun _ q => q) hval hd hk2
theorem n_init {Nn : gM} {idx h K0 N0 : Nat} {M1 : List va_E} (hC : nC E Nn K0 N0 [.ref h] Mm none M1) (hd : decode M.2.1 pc = .ok (.invokespecial idx, 3)) (ok : nOk M Nn idx K0 N0) (hw : (st.map fun v => v.category).sum ≤ 8) (h1 : kc + K0 ≤ K) (h2 : nc + N0 ≤ N) (kk : nG E M K N (pc + 3) lv st M1 (kc + K0) (nc + N0) r M') : nG E M K N pc lv (.ref h :: st) Mm kc nc r M' := by
  intro p e R s m args below meth c H locs ls F hP hS hl
  exact w_init hC F.1 F.2.1 F.2.2.2.1 F.2.2.2.2.1 F.2.2.2.2.2.1 ⟨F.2.2.2.2.2.2.2.1, F.2.2.2.2.2.2.2.2.1⟩ F.2.2.2.2.2.2.2.2.2.1 F.2.2.2.2.2.2.2.2.2.2.2.2.1 F.2.2.2.2.2.2.2.2.2.2.2.2.2 hP hS ok hl.1 hd (n_cat hw) ⟨Nat.le_trans h1 F.2.2.2.2.2.2.2.2.2.2.1.1, Nat.le_trans h2 F.2.2.2.2.2.2.2.2.2.2.1.2⟩ (fun H1 locs1 hP1 hS1 => kk p e R s m args below meth c H1 locs1 ls F hP1 hS1 hl)
theorem n_iast {h n : Nat} {f : Nat → Int32} {i x : Int32} {M2 : List va_E} (hd : decode M.2.1 pc = .ok (.iastore, 1)) (hM : Mm[h]? = some (.inl (E.2.2.1 0, n, .inl f))) (hin : vp_in i n) (hM2 : Mm.set h (.inl (E.2.2.1 0, n, .inl (upd f i.toNatClampNeg x))) = M2) (kk : nG E M K N (pc + 1) lv st M2 kc nc r M') : nG E M K N pc lv (.int x :: .int i :: .ref h :: st) Mm kc nc r M' := by
  intro p e R s m args below meth c H locs ls F hP hS hl
  subst hM2
  have he : (nws E.2.2.2 Mm)[h]? = some (E.2.2.2 h, .inl (E.2.2.1 0, n, .inl f)) := nws_get hM
  have hD := nws_D F.2.2.2.2.2.2.2.2.2.2.2.2.1 hP.1
  have hset : (nws E.2.2.2 Mm).set h (E.2.2.2 h, .inl (E.2.2.1 0, n, .inl (upd f i.toNatClampNeg x))) = nws E.2.2.2 (Mm.set h (.inl (E.2.2.1 0, n, .inl (upd f i.toNatClampNeg x)))) := by
    rw [← nws_set]
    rfl
  refine W.iast F.1 F.2.1 (hP.2.2 h _ he) ((F.2.2.2.2.2.2.2.2.2.1.1.2 0 _ rfl).1 n (fun j => .int (f j))) (fun q => by cases q) (by show ¬ (i < 0 ∨ (arrV _ _ _).slots.size ≤ _); rw [arrV_size]; exact hin) rfl rfl hd fun H1 e1 z oq => ?_
  have hat : va_at E.2.1 vwCl (E.2.2.2 h, .inl (E.2.2.1 0, n, .inl (upd f i.toNatClampNeg x))) H1 := by
    show H1[E.2.2.2 h]? = some (vp_cell _ _)
    rw [e1, vp_cell_i, vp_cell_i, arrV_store]
    congr 2
    funext q
    by_cases hq : q = i.toNatClampNeg
    · subst hq; simp [updV, upd]
    · simp [updV, upd, hq]
  have hP1 := hP.2.2.set hD he hat oq
  rw [hset] at hP1
  exact kk p e R s m args below meth c H1 _ ls F ⟨by rw [List.length_set]; exact hP.1, by rw [z, List.length_set]; exact hP.2.1, hP1⟩ (hS.put z oq (hD.2 h _ he)) hl
end NR

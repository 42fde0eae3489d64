abbrev eI (cy : Nat → ClassId) (n : Nat) : va_E := .inl (cy 0, n, .inl (fun _ => 0))
abbrev eJ (cy : Nat → ClassId) (n : Nat) : va_E := .inl (cy 1, n, .inr (.inl (fun _ => 0)))
abbrev eB (cy : Nat → ClassId) (n : Nat) : va_E := .inl (cy 2, n, .inl (fun _ => 0))
abbrev eZ (cy : Nat → ClassId) (n : Nat) : va_E := .inl (cy 3, n, .inl (fun _ => 0))
/-! the world of one object under construction: Pm, the object, the cells that it made -/
def nO (Pm : List va_E) (ci : Nat) (fs : List Value) (Rr : List va_E) : List va_E := Pm ++ (.inr (ci, fs) :: Rr)
theorem nO_len {Pm Rr : List va_E} {ci b k : Nat} {fs : List Value} (hb : Pm.length = b) (hR : Rr.length = k) : (nO Pm ci fs Rr).length = b + 1 + k := by simp [nO, hb, hR]; omega
theorem nO_get {Pm Rr : List va_E} {ci b : Nat} {fs : List Value} (hb : Pm.length = b) : (nO Pm ci fs Rr)[b]? = some (.inr (ci, fs)) := by subst hb; simp [nO]
theorem nO_set {Pm Rr : List va_E} {ci b : Nat} {fs fs' : List Value} (hb : Pm.length = b) : (nO Pm ci fs Rr).set b (.inr (ci, fs')) = nO Pm ci fs' Rr := by subst hb; simp [nO]
theorem nO_push {Pm Rr : List va_E} {ci : Nat} {fs : List Value} {x : va_E} : nO Pm ci fs Rr ++ [x] = nO Pm ci fs (Rr ++ [x]) := by simp [nO]
theorem nO_app {Pm Rr T : List va_E} {ci : Nat} {fs : List Value} : nO Pm ci fs Rr ++ T = nO Pm ci fs (Rr ++ T) := by simp [nO]
theorem nO_lenS {Rr : List va_E} {x : va_E} {k : Nat} (h : Rr.length = k) : (Rr ++ [x]).length = k + 1 := by simp [h]
theorem nO_lenF {fs : List Value} {j nf : Nat} {v : Value} (h : fs.length = nf) : (fs.set j v).length = nf := by simp [h]
section NC
variable {E : gE} {M : gM} {K N kc nc pc : Nat} {lv : List (Nat × Value)} {st : List Value} {M' : List va_E} {r : Option Value} {Pm Rr : List va_E} {ci b k nf : Nat} {fs : List Value}
theorem n_naI {n : Int32} {N' j idx : Nat} (hb : Pm.length = b) (hR : Rr.length = k) (hF : fs.length = nf) (d1 : decode M.2.1 pc = .ok (.newarray .int, 2)) (d2 : decode M.2.1 (pc + 2) = .ok (.putfield idx, 3)) (hn : ¬ n < 0 ∧ n.toNatClampNeg = N' ∧ N' ≤ 10000) (hf : nFp M idx ci j (.array .int)) (hj : j < nf) (hB : b + 1 + k < gNH) (h1 : kc + 1 ≤ K) (h2 : nc + N' ≤ N)
    (kk : (Rr ++ [eI E.2.2.1 N']).length = k + 1 → (fs.set j (.ref (b + 1 + k))).length = nf → nG E M K N (pc + 2 + 3) lv st (nO Pm ci (fs.set j (.ref (b + 1 + k))) (Rr ++ [eI E.2.2.1 N'])) (kc + 1) (nc + N') r M') : nG E M K N pc lv (.int n :: .ref b :: st) (nO Pm ci fs Rr) kc nc r M' :=
  n_newI d1 hn (nO_len hb hR) hB h1 h2 nO_push (n_putA d2 (nO_get hb) hf (by omega) rfl (nO_set hb) (kk (nO_lenS hR) (nO_lenF hF)))
theorem n_naJ {n : Int32} {N' j idx : Nat} (hb : Pm.length = b) (hR : Rr.length = k) (hF : fs.length = nf) (d1 : decode M.2.1 pc = .ok (.newarray .long, 2)) (d2 : decode M.2.1 (pc + 2) = .ok (.putfield idx, 3)) (hn : ¬ n < 0 ∧ n.toNatClampNeg = N' ∧ N' ≤ 10000) (hf : nFp M idx ci j (.array .long)) (hj : j < nf) (hB : b + 1 + k < gNH) (h1 : kc + 1 ≤ K) (h2 : nc + N' ≤ N)
    (kk : (Rr ++ [eJ E.2.2.1 N']).length = k + 1 → (fs.set j (.ref (b + 1 + k))).length = nf → nG E M K N (pc + 2 + 3) lv st (nO Pm ci (fs.set j (.ref (b + 1 + k))) (Rr ++ [eJ E.2.2.1 N'])) (kc + 1) (nc + N') r M') : nG E M K N pc lv (.int n :: .ref b :: st) (nO Pm ci fs Rr) kc nc r M' :=
  n_newJ d1 hn (nO_len hb hR) hB h1 h2 nO_push (n_putA d2 (nO_get hb) hf (by omega) rfl (nO_set hb) (kk (nO_lenS hR) (nO_lenF hF)))
theorem n_naB {n : Int32} {N' j idx : Nat} (hb : Pm.length = b) (hR : Rr.length = k) (hF : fs.length = nf) (d1 : decode M.2.1 pc = .ok (.newarray .byte, 2)) (d2 : decode M.2.1 (pc + 2) = .ok (.putfield idx, 3)) (hn : ¬ n < 0 ∧ n.toNatClampNeg = N' ∧ N' ≤ 10000) (hf : nFp M idx ci j (.array .byte)) (hj : j < nf) (hB : b + 1 + k < gNH) (h1 : kc + 1 ≤ K) (h2 : nc + N' ≤ N)
    (kk : (Rr ++ [eB E.2.2.1 N']).length = k + 1 → (fs.set j (.ref (b + 1 + k))).length = nf → nG E M K N (pc + 2 + 3) lv st (nO Pm ci (fs.set j (.ref (b + 1 + k))) (Rr ++ [eB E.2.2.1 N'])) (kc + 1) (nc + N') r M') : nG E M K N pc lv (.int n :: .ref b :: st) (nO Pm ci fs Rr) kc nc r M' :=
  n_newB d1 hn (nO_len hb hR) hB h1 h2 nO_push (n_putA d2 (nO_get hb) hf (by omega) rfl (nO_set hb) (kk (nO_lenS hR) (nO_lenF hF)))
theorem n_naZ {n : Int32} {N' j idx : Nat} (hb : Pm.length = b) (hR : Rr.length = k) (hF : fs.length = nf) (d1 : decode M.2.1 pc = .ok (.newarray .boolean, 2)) (d2 : decode M.2.1 (pc + 2) = .ok (.putfield idx, 3)) (hn : ¬ n < 0 ∧ n.toNatClampNeg = N' ∧ N' ≤ 10000) (hf : nFp M idx ci j (.array .boolean)) (hj : j < nf) (hB : b + 1 + k < gNH) (h1 : kc + 1 ≤ K) (h2 : nc + N' ≤ N)
    (kk : (Rr ++ [eZ E.2.2.1 N']).length = k + 1 → (fs.set j (.ref (b + 1 + k))).length = nf → nG E M K N (pc + 2 + 3) lv st (nO Pm ci (fs.set j (.ref (b + 1 + k))) (Rr ++ [eZ E.2.2.1 N'])) (kc + 1) (nc + N') r M') : nG E M K N pc lv (.int n :: .ref b :: st) (nO Pm ci fs Rr) kc nc r M' :=
  n_newZ d1 hn (nO_len hb hR) hB h1 h2 nO_push (n_putA d2 (nO_get hb) hf (by omega) rfl (nO_set hb) (kk (nO_lenS hR) (nO_lenF hF)))
theorem n_fI {x : Int32} {j idx : Nat} (hb : Pm.length = b) (hF : fs.length = nf) (d2 : decode M.2.1 pc = .ok (.putfield idx, 3)) (hf : nFp M idx ci j .int) (hj : j < nf) (kk : (fs.set j (.int x)).length = nf → nG E M K N (pc + 3) lv st (nO Pm ci (fs.set j (.int x)) Rr) kc nc r M') : nG E M K N pc lv (.int x :: .ref b :: st) (nO Pm ci fs Rr) kc nc r M' :=
  n_putI d2 (nO_get hb) hf (by omega) rfl (nO_set hb) (kk (nO_lenF hF))
/-- the cells of 'new int[n][k]' -/
def nMA (cy : Nat → ClassId) (a N' k0 : Nat) : List va_E := .inl (cy 5, N', .inr (.inr (.inr (.inr (fun i => some (a + 1 * i)))))) :: List.replicate N' (.inl (cy 0, k0, .inl (fun _ => 0)))
theorem n_ma {n k1 : Int32} {N' k0 j idx i2 : Nat} (hb : Pm.length = b) (hR : Rr.length = k) (hF : fs.length = nf) (d1 : decode M.2.1 pc = .ok (.multianewarray idx 2, 4)) (d2 : decode M.2.1 (pc + 4) = .ok (.putfield i2, 3)) (hw : Cond.classLink M.2.2.1 idx "[[I" ∈ gWS) (hn : ¬ n < 0 ∧ n.toNatClampNeg = N' ∧ ¬ k1 < 0 ∧ k1.toNatClampNeg = k0 ∧ N' ≤ 1000 ∧ k0 ≤ 1000) (hf : nFp M i2 ci j (.array (.array .int))) (hj : j < nf) (hB : b + 1 + k + 1 + N' ≤ gNH) (h1 : kc + 1 + N' ≤ K) (h2 : nc + N' + N' * k0 ≤ N)
    (kk : (Rr ++ nMA E.2.2.1 (b + 1 + k + 1) N' k0).length = k + 1 + N' → (fs.set j (.ref (b + 1 + k))).length = nf → nG E M K N (pc + 4 + 3) lv st (nO Pm ci (fs.set j (.ref (b + 1 + k))) (Rr ++ nMA E.2.2.1 (b + 1 + k + 1) N' k0)) (kc + 1 + N') (nc + N' + N' * k0) r M') : nG E M K N pc lv (.int k1 :: .int n :: .ref b :: st) (nO Pm ci fs Rr) kc nc r M' := by
  have hl := nO_len (ci := ci) (fs := fs) hb hR
  have kk2 : nG E M K N (pc + 4) lv (.ref (b + 1 + k) :: .ref b :: st) (nO Pm ci fs Rr ++ nMA E.2.2.1 (b + 1 + k + 1) N' k0) (kc + 1 + N') (nc + N' + N' * k0) r M' := by
    rw [nO_app]
    exact n_putA d2 (nO_get hb) hf (by omega) rfl (nO_set hb) (kk (by simp [nMA, hR]; omega) (nO_lenF hF))
  intro p e R s m args below meth c H locs ls F hP hS hl'
  refine w_mna F.1 F.2.1 F.2.2.2.2.2.1 F.2.2.2.2.1 hw F.2.2.2.2.2.2.2.2.2.1 F.2.2.2.2.2.2.2.2.2.2.2.2.1 hP hS (by rw [hl]; exact hB) (f := fun i => some (b + 1 + k + 1 + 1 * i)) (fun i _ => by rw [hl, Nat.one_mul]) hn.1 hn.2.2.1 hn.2.1 hn.2.2.2.1 hn.2.2.2.2 (by have := F.2.2.2.2.2.2.2.2.2.2.1.1; omega) (by have := F.2.2.2.2.2.2.2.2.2.2.1.2; omega) d1 (fun H1 hP1 hS1 => ?_)
  rw [hl]
  exact kk2 p e R s m args below meth c H1 locs ls F hP1 hS1 hl'
/-- a part is made and laid into a field -/
theorem n_sub {Nn : gM} {idx i2 i3 j nfj cj K0 N0 k2 : Nat} {C D : String} {T : u_T} {ty : Nat → FieldType} {dj : List Value} {T2 : List va_E} (hb : Pm.length = b) (hR : Rr.length = k) (hF : fs.length = nf) (d1 : decode M.2.1 pc = .ok (.new idx, 3)) (d2 : decode M.2.1 (pc + 3) = .ok (.dup, 1)) (d3 : decode M.2.1 (pc + 4) = .ok (.invokespecial i2, 3)) (d4 : decode M.2.1 (pc + 7) = .ok (.putfield i3, 3)) (hin : ∀ w ∈ u_ws C T nfj, w ∈ gWS) (hty : ∀ k, k < nfj → parseFieldDescriptor (T k).2.2.1 = some (ty k)) (hw : Cond.classLink M.2.2.1 idx C ∈ gWS ∧ Cond.instantiable C nfj ∈ gWS ∧ Cond.initialized C ∈ gWS) (hc : vwCl[cj]? = some (C, T, nfj)) (hfs : ∀ j, j < nfj → defaultValue (ty j) = vp_V dj j) (hg : ∀ ad, dj.map (gv ad) = dj) (hC : nC E Nn K0 N0 [.ref (b + 1 + k)] (nO Pm ci fs Rr ++ [.inr (cj, dj)]) none (nO Pm ci fs Rr ++ T2)) (ok : nOk M Nn i2 K0 N0) (hf : nFp M i3 ci j (.object D)) (hj : j < nf) (hB : b + 1 + k < gNH) (h2 : T2.length = k2) (hst : ((Value.ref b :: Value.ref b :: st).map fun v => v.category).sum ≤ 8) (g1 : kc + 1 + K0 ≤ K) (g2 : nc + nfj + N0 ≤ N)
    (kk : (Rr ++ T2).length = k + k2 → (fs.set j (.ref (b + 1 + k))).length = nf → nG E M K N (pc + 7 + 3) lv st (nO Pm ci (fs.set j (.ref (b + 1 + k))) (Rr ++ T2)) (kc + 1 + K0) (nc + nfj + N0) r M') : nG E M K N pc lv (.ref b :: st) (nO Pm ci fs Rr) kc nc r M' := by
  refine n_new d1 hin hty hw hc hfs hg (nO_len hb hR) hB (by omega) (by omega) rfl (n_dup d2 rfl (n_init hC d3 ok hst g1 g2 ?_))
  rw [nO_app]
  exact n_putO d4 (nO_get hb) hf (by omega) rfl (nO_set hb) (kk (by simp [hR, h2]) (nO_lenF hF))
/-! the String of the words, the statics -/
theorem n_ldcS (hd : decode M.2.1 pc = .ok (.ldc 31, 2)) (hM : M.2.2.1 = RX6) {Mm : List va_E} (kk : nG E M K N (pc + 2) lv (.ref 237 :: st) Mm kc nc r M') : nG E M K N pc lv st Mm kc nc r M' :=
  fun p e R s m args below meth c H locs ls F hP hS hl => va_ldcS F.1 F.2.1 F.2.2.2.2.1 (by rw [hM]; exact F.2.2.2.2.2.2.2.2.2.2.2.2.2.1) hd (kk p e R s m args below meth c H locs ls F hP hS hl)
variable {Mm : List va_E}
theorem n_sval {idx : Nat} (hd : decode M.2.1 pc = .ok (.getfield idx, 3)) (hw : Cond.fieldLink M.2.2.1 idx "java/lang/String" "value" "[B" ∈ gWS) (kk : nG E M K N (pc + 3) lv (.ref 238 :: st) Mm kc nc r M') : nG E M K N pc lv (.ref 237 :: st) Mm kc nc r M' :=
  fun p e R s m args below meth c H locs ls F hP hS hl => vk_getf F.1 F.2.1 F.2.2.2.2.2.2.2.2.2.2.2.2.2.2.2.2.1 hS F.2.2.2.2.1 (F.2.2.2.2.2.1 _ hw) (fun _ q => q) hd (kk p e R s m args below meth c H locs ls F hP hS hl)
theorem n_scod {idx : Nat} (hd : decode M.2.1 pc = .ok (.getfield idx, 3)) (hw : Cond.fieldLink M.2.2.1 idx "java/lang/String" "coder" "B" ∈ gWS) (kk : nG E M K N (pc + 3) lv (.int 0 :: st) Mm kc nc r M') : nG E M K N pc lv (.ref 237 :: st) Mm kc nc r M' :=
  fun p e R s m args below meth c H locs ls F hP hS hl => vk_getf F.1 F.2.1 F.2.2.2.2.2.2.2.2.2.2.2.2.2.2.2.1 hS F.2.2.2.2.1 (F.2.2.2.2.2.1 _ hw) (fun _ q => q) hd (kk p e R s m args below meth c H locs ls F hP hS hl)
theorem n_slen (hd : decode M.2.1 pc = .ok (.arraylength, 1)) (kk : nG E M K N (pc + 1) lv (.int 66 :: st) Mm kc nc r M') : nG E M K N pc lv (.ref 238 :: st) Mm kc nc r M' :=
  fun p e R s m args below meth c H locs ls F hP hS hl => va_tlen F.1 F.2.1 F.2.2.2.2.2.2.2.2.2.2.2.2.2.2.2.2.2.1 hS rfl hd (kk p e R s m args below meth c H locs ls F hP hS hl)
theorem n_sbld {i : Int32} (hd : decode M.2.1 pc = .ok (.baload, 1)) (hin : vp_in i 66) (kk : nG E M K N (pc + 1) lv (.int (nBy.getD i.toNatClampNeg 0) :: st) Mm kc nc r M') : nG E M K N pc lv (.int i :: .ref 238 :: st) Mm kc nc r M' :=
  fun p e R s m args below meth c H locs ls F hP hS hl => va_tb F.1 F.2.1 F.2.2.2.2.2.2.2.2.2.2.2.2.2.2.2.2.2.1 hS hin (v := .int (nBy.getD i.toNatClampNeg 0)) rfl hd (kk p e R s m args below meth c H locs ls F hP hS hl)
theorem n_gets1 {idx : Nat} (hd : decode M.2.1 pc = .ok (.getstatic idx, 3)) (hw : Cond.fieldLink M.2.2.1 idx "java/lang/String" "COMPACT_STRINGS" "Z" ∈ gWS) (kk : nG E M K N (pc + 3) lv (.int 1 :: st) Mm kc nc r M') : nG E M K N pc lv st Mm kc nc r M' :=
  fun p e R s m args below meth c H locs ls F hP hS hl => va_gets F.1 F.2.1 F.2.2.2.2.2.2.2.2.2.2.2.2.2.2.2.2.2.2.1 hS F.2.2.2.2.1 (F.2.2.2.2.2.1 _ hw) (fun _ q => q) hd (kk p e R s m args below meth c H locs ls F hP hS hl)
theorem n_getsF {idx : Nat} (hd : decode M.2.1 pc = .ok (.getstatic idx, 3)) (hw : Cond.fieldLink M.2.2.1 idx "jdk/internal/util/Preconditions" "SIOOBE_FORMATTER" "Ljava/util/function/BiFunction;" ∈ gWS) (kk : ∀ w : Value, w.category = 1 → nG E M K N (pc + 3) lv (w :: st) Mm kc nc r M') : nG E M K N pc lv st Mm kc nc r M' := by
  intro p e R s m args below meth c H locs ls F hP hS hl
  obtain ⟨w, hc, hZ⟩ := F.2.2.2.2.2.2.2.2.2.2.2.2.2.2.2.2.2.2.2
  exact va_gets F.1 F.2.1 hZ hS F.2.2.2.2.1 (F.2.2.2.2.2.1 _ hw) (fun _ q => q) hd (kk w hc p e R s m args below meth c H locs ls F hP hS hl)
theorem n_callS {Nn : gM} {idx : Nat} {as : List Value} {r1 : Option Value} (hC : nC E Nn 0 0 as Mm r1 Mm) (hd : decode M.2.1 pc = .ok (.invokestatic idx, 3)) (ok : gOkS M Nn idx as.length) (hw : (st.map fun v => v.category).sum ≤ 8) (h1 : kc ≤ K) (h2 : nc ≤ N) (kk : nG E M K N (pc + 3) lv (r1.toList ++ st) Mm kc nc r M') : nG E M K N pc lv (as.reverse ++ st) Mm kc nc r M' := by
  intro p e R s m args below meth c H locs ls F hP hS hl
  obtain ⟨hin, hdd, hfr, hlo⟩ := ok
  refine W.eq (g2 := F0 m pc ls ((as.map (gv E.2.2.2)).reverse ++ st.map (gv E.2.2.2))) (by simp) ?_
  refine n_run (va_runS (As := as.map (gv E.2.2.2)) (rest := st.map (gv E.2.2.2)) (Ts := gWS) (own := M.2.2.1) ⟨F.1, F.2.1, F.2.2.2.1, F.2.2.2.2.1, F.2.2.2.2.2.1⟩ hC (va_cwS as.length F.2.2.2.2.2.1 (gIn_good hin) rfl rfl rfl hdd ⟨Nat.le_trans hfr F.2.2.2.2.2.2.2.1, Nat.le_trans hlo F.2.2.2.2.2.2.2.2.1⟩) ⟨n_blind, n_pre (as := as) F.2.2.2.2.2.2.2.2.2.1 F.2.2.2.2.2.2.2.2.2.2.2.2.1 F.2.2.2.2.2.2.2.2.2.2.2.2.2 hP hS⟩ rfl (by simp) hl.1 rfl (lv_room (n_cat hw)) hd ⟨Nat.le_trans h1 F.2.2.2.2.2.2.2.2.2.2.1.1, Nat.le_trans h2 F.2.2.2.2.2.2.2.2.2.2.1.2⟩) hS (fun H1 locs1 hP1 hS1 => ?_)
  have hk2 := kk p e R s m args below meth c H1 locs1 ls F hP1 hS1 hl
  exact W.eq (g2 := F0 m (pc + 3) ls ((r1.toList ++ st).map (gv E.2.2.2))) (by cases r1 <;> simp) hk2
theorem n_callT {Nn : gM} {idx : Nat} {as : List Value} {r1 : Option Value} (hC : nC E Nn 0 0 (.ref 237 :: as) Mm r1 Mm) (hd : decode M.2.1 pc = .ok (.invokevirtual idx, 3)) (hNc : Nn.1.cls = "java/lang/String") (ok : gOkV M Nn idx as.length) (hw : (st.map fun v => v.category).sum ≤ 8) (h1 : kc ≤ K) (h2 : nc ≤ N) (kk : nG E M K N (pc + 3) lv (r1.toList ++ st) Mm kc nc r M') : nG E M K N pc lv (as.reverse ++ .ref 237 :: st) Mm kc nc r M' := by
  intro p e R s m args below meth c H locs ls F hP hS hl
  obtain ⟨hin, hdd, hfr, hlo⟩ := ok
  have hcl : ∃ cell : Cell, H[E.2.2.2 237]? = some cell ∧ cell.vm.isStatics = false ∧ s.vm.findClass Nn.1.cls = some cell.cls := by
    obtain ⟨cell, g1, g2, g3, -⟩ := F.2.2.2.2.2.2.2.2.2.2.2.2.2.2.1.kept hS.2.1
    exact ⟨cell, g1, g2, by rw [hNc]; exact g3⟩
  refine W.eq (g2 := F0 m pc ls ((as.map (gv E.2.2.2)).reverse ++ .ref (E.2.2.2 237) :: st.map (gv E.2.2.2))) (by simp [gv]) ?_
  refine n_run (va_runV (As := as.map (gv E.2.2.2)) (rest := st.map (gv E.2.2.2)) (Ts := gWS) (own := M.2.2.1) (C := Nn.1.cls) ⟨F.1, F.2.1, F.2.2.2.1, F.2.2.2.2.1, F.2.2.2.2.2.1⟩ hC (cwV as.length F.2.2.2.2.2.1 (gIn_good hin) rfl rfl rfl ⟨rfl, hdd⟩ ⟨Nat.le_trans hfr F.2.2.2.2.2.2.2.1, Nat.le_trans hlo F.2.2.2.2.2.2.2.2.1⟩) ⟨n_blind, hcl, n_pre (as := .ref 237 :: as) F.2.2.2.2.2.2.2.2.2.1 F.2.2.2.2.2.2.2.2.2.2.2.2.1 F.2.2.2.2.2.2.2.2.2.2.2.2.2 hP hS⟩ rfl (by simp) hl.1 rfl (lv_room (n_cat hw)) hd ⟨Nat.le_trans h1 F.2.2.2.2.2.2.2.2.2.2.1.1, Nat.le_trans h2 F.2.2.2.2.2.2.2.2.2.2.1.2⟩) hS (fun H1 locs1 hP1 hS1 => ?_)
  have hk2 := kk p e R s m args below meth c H1 locs1 ls F hP1 hS1 hl
  exact W.eq (g2 := F0 m (pc + 3) ls ((r1.toList ++ st).map (gv E.2.2.2))) (by cases r1 <;> simp) hk2
end NC

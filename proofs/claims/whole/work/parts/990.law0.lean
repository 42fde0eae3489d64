def R_law : String := "LinkageCurvesLaw"
def lw_P (b : Addr) (xs : List Int32) (args : Array Value) (s : State) : Prop := args = #[.ref b] ∧ s.IntsAt b xs ∧ xs.length ≤ 3072 ∧ (Jvm.Cond.and given_1 narrow_1).before args s = true
def lw_Q (_ : Array Value) (s : State) (o : Outcome) (t : State) : Prop := o = .returned (some (.int 1)) ∧ Framed s o t [] 600000 7302250
def lw_Z (below : List Frame) (a : Array Value) (s : State) : State → Prop := fun t => ∃ o, t.status = .running ∧ Ended t below o ∧ lw_Q a s o t
/-- the law's own end, with 1 on the stack, nothing written that was there before, its room as the claim has it -/
theorem lw_ret {p : Program} {l : Launch} {e : Env} {s : State} {m : MethodId} {below : List Frame} {meth : Method} {c : Code} {b : Nat} (hx : p.tables.exec = Jvm.exec) (hb : c.code = code) (hr : meth.sig.returnType = ret) (hlocks : meth.locks = false) {pc : Nat} {H : Heap} {ls : Array Slot} (hdg : decode code pc = .ok (.ireturn, 1)) : W p l e room_1 s m #[Value.ref b] below meth c H [] 600000 7302250 (lw_Z below #[Value.ref b] s) (F0 m pc ls [.int 1]) := by
  intro T hT X
  obtain ⟨fs, hret, hrun, hended, hW, hframe⟩ := X.leave (v := some (.int 1)) (hlocks := hlocks) (fun h => by rw [hr] at h; cases h)
  have hmeth' : T.vm.method? m = some meth := X.method'
  refine ⟨T.setFrames fs, ?_, .returned (some (.int 1)), hrun, hended, rfl, ⟨_, rfl⟩, hW, hframe⟩
  jvm_step X.here [X.here.top, hx, hb, hdg, hmeth', hr, ret, narrow_b1]
  (try refine ⟨rfl, ?_⟩); (try refine ⟨rfl, ?_⟩)
  first | (intro acts; rw [hret _ acts rfl rfl rfl]) | rw [hret _ _ rfl rfl rfl]
  exact Steps.refl _
/-- what holds at the law's entry: the machine, the code, the tables' words (any of lw_tbl by 'hts w (by decide +kernel)'), the script of L ints xs at the cell b, what the Statement gives of the start (any of its parts by flat_of_before) -/
def lw_At (p : Program) (s : State) (m : MethodId) (meth : Method) (c : Code) (b L : Nat) (xs : Nat → Int32) : Prop :=
  p.tables.exec = Jvm.exec ∧ c.code = code ∧ meth.sig.returnType = ret ∧ c.maxLocals = 4 ∧ s.vm.findClass R_law = some m.cls ∧ (∀ w ∈ lw_tbl, w.before #[Value.ref b] s = true) ∧ va_X b L xs s s.heap ∧ b < s.heap.size ∧ meth.locks = false ∧ (Jvm.Cond.and given_1 narrow_1).before #[Value.ref b] s = true

def mLaw : gM := (x, code, R_law, 4, ret, 10, 364)
/-- the law's world: launch and so on, the script (its cell, its length, its ints), cells and slots made -/
abbrev hY : Type := gE × Nat × Nat × (Nat → Int32) × Nat × Nat
def hF (Y : hY) (p : Program) (s : State) (m : MethodId) (meth : Method) (c : Code) : Prop :=
  p.tables.exec = Jvm.exec ∧ c.code = code ∧ meth.sig.returnType = ret ∧ c.maxLocals = 4 ∧ s.vm.findClass R_law = some m.cls ∧ (∀ w ∈ gWS, w.before #[Value.ref Y.2.1] s = true) ∧ meth.locks = false ∧ va_X Y.2.1 Y.2.2.1 Y.2.2.2.1 s s.heap ∧ Y.2.1 < s.heap.size ∧ gK Y.1 s ∧ gSt Y.1.2.2.2 s s.heap ∧ (∀ h, h < gNH → s.heap.size ≤ Y.1.2.2.2 h) ∧ Y.1.2.2.2 236 = Y.2.1 ∧ Y.2.2.2.2.1 ≤ 600000 ∧ Y.2.2.2.2.2 ≤ 7302250
def hG (Y : hY) (pc : Nat) (lv : List (Nat × Value)) (st : List Value) (σ : gS) : Prop :=
  ∀ (p : Program) (e : Env) (s : State) (m : MethodId) (below : List Frame) (meth : Method) (c : Code) (H : Heap) (locs : List Loc) (ls : Array Slot),
    hF Y p s m meth c → va_P Y.1.2.1 vwCl (gws Y.1.2.2.1 Y.1.2.2.2 σ) H → va_S (fun q => s.heap.size ≤ q) s.heap H locs → lv_has ls 4 (gl Y.1.2.2.2 lv) →
    W p Y.1.1 e room_1 s m #[Value.ref Y.2.1] below meth c H locs Y.2.2.2.2.1 Y.2.2.2.2.2 (lw_Z below #[Value.ref Y.2.1] s) (F0 m pc ls (st.map (gv Y.1.2.2.2)))
section HR
variable {Y : hY} {pc : Nat} {lv : List (Nat × Value)} {st : List Value} {σ : gS}
theorem h_iconst {n : Int} {v : Int32} (hd : decode code pc = .ok (.iconst n, 1)) (hv : Int32.ofInt n = v) (k : hG Y (pc + 1) lv (.int v :: st) σ) : hG Y pc lv (st) σ :=
  fun p e s m below meth c H locs ls F hP hS hl => lv_iconst F.1 F.2.1 hd hv (k p e s m below meth c H locs ls F hP hS hl)
theorem h_bipush {n : Int} {v : Int32} (hd : decode code pc = .ok (.bipush n, 2)) (hv : (Int8.ofInt n).toInt32 = v) (k : hG Y (pc + 2) lv (.int v :: st) σ) : hG Y pc lv (st) σ :=
  fun p e s m below meth c H locs ls F hP hS hl => lv_bipush F.1 F.2.1 hd hv (k p e s m below meth c H locs ls F hP hS hl)
theorem h_iadd {x y : Int32} (hd : decode code pc = .ok (.iadd, 1)) (k : hG Y (pc + 1) lv (.int (x + y) :: st) σ) : hG Y pc lv (.int y :: .int x :: st) σ :=
  fun p e s m below meth c H locs ls F hP hS hl => lv_iadd F.1 F.2.1 hd (k p e s m below meth c H locs ls F hP hS hl)
theorem h_isub {x y : Int32} (hd : decode code pc = .ok (.isub, 1)) (k : hG Y (pc + 1) lv (.int (x - y) :: st) σ) : hG Y pc lv (.int y :: .int x :: st) σ :=
  fun p e s m below meth c H locs ls F hP hS hl => lv_isub F.1 F.2.1 hd (k p e s m below meth c H locs ls F hP hS hl)
theorem h_iand {x y : Int32} (hd : decode code pc = .ok (.iand, 1)) (k : hG Y (pc + 1) lv (.int (x &&& y) :: st) σ) : hG Y pc lv (.int y :: .int x :: st) σ :=
  fun p e s m below meth c H locs ls F hP hS hl => lv_iand F.1 F.2.1 hd (k p e s m below meth c H locs ls F hP hS hl)
theorem h_i2l {x : Int32} (hd : decode code pc = .ok (.i2l, 1)) (k : hG Y (pc + 1) lv (.long x.toInt64 :: st) σ) : hG Y pc lv (.int x :: st) σ :=
  fun p e s m below meth c H locs ls F hP hS hl => lv_i2l F.1 F.2.1 hd rfl (k p e s m below meth c H locs ls F hP hS hl)
theorem h_lshl {x : Int64} {y : Int32} (hd : decode code pc = .ok (.lshl, 1)) (k : hG Y (pc + 1) lv (.long (x <<< (y.toInt64 &&& 63)) :: st) σ) : hG Y pc lv (.int y :: .long x :: st) σ :=
  fun p e s m below meth c H locs ls F hP hS hl => lv_lshl F.1 F.2.1 hd rfl (k p e s m below meth c H locs ls F hP hS hl)
theorem h_land {x y : Int64} (hd : decode code pc = .ok (.land, 1)) (k : hG Y (pc + 1) lv (.long (x &&& y) :: st) σ) : hG Y pc lv (.long y :: .long x :: st) σ :=
  fun p e s m below meth c H locs ls F hP hS hl => lv_land F.1 F.2.1 hd (k p e s m below meth c H locs ls F hP hS hl)
theorem h_lor {x y : Int64} (hd : decode code pc = .ok (.lor, 1)) (k : hG Y (pc + 1) lv (.long (x ||| y) :: st) σ) : hG Y pc lv (.long y :: .long x :: st) σ :=
  fun p e s m below meth c H locs ls F hP hS hl => lv_lor F.1 F.2.1 hd (k p e s m below meth c H locs ls F hP hS hl)
theorem h_lcmp {x y : Int64} (hd : decode code pc = .ok (.lcmp, 1)) (k : hG Y (pc + 1) lv (.int (lg_cmp x y) :: st) σ) : hG Y pc lv (.long y :: .long x :: st) σ :=
  fun p e s m below meth c H locs ls F hP hS hl => W.lcmp F.1 F.2.1 hd (k p e s m below meth c H locs ls F hP hS hl)
theorem h_iload_n {q : Fin 4} {i : Nat} {x : Int32} (hd : decode code pc = .ok (.iload_n q, 1)) (hi : (q : Nat) = i) (j : Nat) (hj : lv[j]? = some (i, .int x)) (k : hG Y (pc + 1) lv (.int x :: st) σ) : hG Y pc lv st σ :=
  fun p e s m below meth c H locs ls F hP hS hl => lv_iload_n F.1 F.2.1 hd hi (lv_at hl j (gl_at hj)) (k p e s m below meth c H locs ls F hP hS hl)
theorem h_aload_n {q : Fin 4} {i : Nat} {x : Nat} (hd : decode code pc = .ok (.aload_n q, 1)) (hi : (q : Nat) = i) (j : Nat) (hj : lv[j]? = some (i, .ref x)) (k : hG Y (pc + 1) lv (.ref x :: st) σ) : hG Y pc lv st σ :=
  fun p e s m below meth c H locs ls F hP hS hl => lv_aload_n F.1 F.2.1 hd hi (lv_at hl j (gl_at hj)) (k p e s m below meth c H locs ls F hP hS hl)
theorem h_iinc {i j : Nat} {n : Int} {x v : Int32} {lv' : List (Nat × Value)} (hd : decode code pc = .ok (.iinc i n, 3)) (hj : lv[j]? = some (i, .int x)) (hv : x + Int32.ofInt n = v) (hn : i < 4) (h : (i, (.int v : Value)) :: lv.filter (fun q => !(q.1 == i) && !(q.1 + 1 == i && q.2.category == 2)) = lv') (k : hG Y (pc + 3) lv' st σ) : hG Y pc lv st σ :=
  fun p e s m below meth c H locs ls F hP hS hl => lv_iinc (lv' := gl Y.1.2.2.2 lv') (k := j) F.1 F.2.1 hd hl (gl_at hj) hv hn (by rw [gl_f1, ← h]; rfl) (fun ls hl => k p e s m below meth c H locs ls F hP hS hl)
theorem h_goto {off : Int} {t : Nat} (hd : decode code pc = .ok (.goto off, 3)) (ht : (pc : Int) + off = (t : Int)) (k : hG Y t lv st σ) : hG Y pc lv st σ :=
  fun p e s m below meth c H locs ls F hP hS hl => lv_goto F.1 F.2.1 hd ht (k p e s m below meth c H locs ls F hP hS hl)
theorem h_icmp_eq {x y : Int32} {off : Int} {t : Nat} (hd : decode code pc = .ok (.if_icmp .eq off, 3)) (ht : (pc : Int) + off = (t : Int)) (kt : x = y → hG Y t lv st σ) (kf : ¬ x = y → hG Y (pc + 3) lv st σ) : hG Y pc lv (.int y :: .int x :: st) σ :=
  fun p e s m below meth c H locs ls F hP hS hl => lv_icmp_eq F.1 F.2.1 hd ht (fun h => kt h p e s m below meth c H locs ls F hP hS hl) (fun h => kf h p e s m below meth c H locs ls F hP hS hl)
theorem h_icmp_gt {x y : Int32} {off : Int} {t : Nat} (hd : decode code pc = .ok (.if_icmp .gt off, 3)) (ht : (pc : Int) + off = (t : Int)) (kt : y < x → hG Y t lv st σ) (kf : ¬ y < x → hG Y (pc + 3) lv st σ) : hG Y pc lv (.int y :: .int x :: st) σ :=
  fun p e s m below meth c H locs ls F hP hS hl => lv_icmp_gt F.1 F.2.1 hd ht (fun h => kt h p e s m below meth c H locs ls F hP hS hl) (fun h => kf h p e s m below meth c H locs ls F hP hS hl)
theorem h_if_eq {x : Int32} {off : Int} {t : Nat} (hd : decode code pc = .ok (.ifCond .eq off, 3)) (ht : (pc : Int) + off = (t : Int)) (kt : x = 0 → hG Y t lv st σ) (kf : ¬ x = 0 → hG Y (pc + 3) lv st σ) : hG Y pc lv (.int x :: st) σ :=
  fun p e s m below meth c H locs ls F hP hS hl => lv_if_eq F.1 F.2.1 hd ht (fun h => kt h p e s m below meth c H locs ls F hP hS hl) (fun h => kf h p e s m below meth c H locs ls F hP hS hl)
theorem h_ldc2 {idx : Nat} {v : Int64} (hd : decode code pc = .ok (.ldc2_w idx, 3)) (hw : Cond.constantLong R_law idx v ∈ gWS) (kk : hG Y (pc + 3) lv (.long v :: st) σ) : hG Y pc lv st σ :=
  fun p e s m below meth c H locs ls F hP hS hl => lv_ldc2 F.1 F.2.1 F.2.2.2.2.1 (F.2.2.2.2.2.1 _ hw) hd (kk p e s m below meth c H locs ls F hP hS hl)
theorem h_tabIn {dflt lo hi : Int} {offs : Array Int} {len : Nat} {x : Int32} {off : Int} {t : Nat} (hd : decode code pc = .ok (.tableswitch dflt lo hi offs, len)) (h1 : ¬ x.toInt < lo) (h2 : ¬ hi < x.toInt) (ho : offs[(x.toInt - lo).toNat]? = some off) (ht : (pc : Int) + off = (t : Int)) (kk : hG Y t lv st σ) : hG Y pc lv (.int x :: st) σ :=
  fun p e s m below meth c H locs ls F hP hS hl => lv_tableIn F.1 F.2.1 hd h1 h2 ho ht (kk p e s m below meth c H locs ls F hP hS hl)
theorem h_tabOut {dflt lo hi : Int} {offs : Array Int} {len : Nat} {x : Int32} {t : Nat} (hd : decode code pc = .ok (.tableswitch dflt lo hi offs, len)) (h : x.toInt < lo ∨ hi < x.toInt) (ht : (pc : Int) + dflt = (t : Int)) (kk : hG Y t lv st σ) : hG Y pc lv (.int x :: st) σ :=
  fun p e s m below meth c H locs ls F hP hS hl => lv_tableOut F.1 F.2.1 hd h ht (kk p e s m below meth c H locs ls F hP hS hl)
theorem h_sld {i : Int32} (hd : decode code pc = .ok (.iaload, 1)) (hin : vp_in i Y.2.2.1) (kk : hG Y (pc + 1) lv (.int (Y.2.2.2.1 i.toNatClampNeg) :: st) σ) : hG Y pc lv (.int i :: .ref 236 :: st) σ := by
  intro p e s m below meth c H locs ls F hP hS hl
  have hA : ¬ (fun q => s.heap.size ≤ q) Y.2.1 := fun q => absurd F.2.2.2.2.2.2.2.2.1 (Nat.not_lt.mpr q)
  refine W.eq (g2 := F0 m pc ls (.int i :: .ref Y.2.1 :: st.map (gv Y.1.2.2.2))) (by simp [gv, F.2.2.2.2.2.2.2.2.2.2.2.2.1]) ?_
  exact va_sld F.1 F.2.1 F.2.2.2.2.2.2.2.1 F.2.2.2.2.2.2.2.2.1 hA hS hin hd (kk p e s m below meth c H locs ls F hP hS hl)
theorem h_slen (hd : decode code pc = .ok (.arraylength, 1)) (kk : hG Y (pc + 1) lv (.int (Int32.ofNat Y.2.2.1) :: st) σ) : hG Y pc lv (.ref 236 :: st) σ := by
  intro p e s m below meth c H locs ls F hP hS hl
  have hA : ¬ (fun q => s.heap.size ≤ q) Y.2.1 := fun q => absurd F.2.2.2.2.2.2.2.2.1 (Nat.not_lt.mpr q)
  refine W.eq (g2 := F0 m pc ls (.ref Y.2.1 :: st.map (gv Y.1.2.2.2))) (by simp [gv, F.2.2.2.2.2.2.2.2.2.2.2.2.1]) ?_
  exact va_slen F.1 F.2.1 F.2.2.2.2.2.2.2.1 F.2.2.2.2.2.2.2.2.1 hA hS hd (kk p e s m below meth c H locs ls F hP hS hl)
theorem h_end (hd : decode code pc = .ok (.ireturn, 1)) : hG Y pc lv [.int 1] σ := by
  intro p e s m below meth c H locs ls F hP hS hl
  exact va_forget hS.2.2 (W.widen F.2.2.2.2.2.2.2.2.2.2.2.2.2.1 F.2.2.2.2.2.2.2.2.2.2.2.2.2.2 (lw_ret F.1 F.2.1 F.2.2.1 F.2.2.2.2.2.2.1 hd))
theorem h_callV {N : gM} {idx h ci : Nat} {ss : List Nat} {T : u_T} {nf : Nat} {as : List Value} {v : Value} {σ1 : gS} (hC : gC Y.1 N (.ref h :: as) σ (some v) σ1) (hd : decode code pc = .ok (.invokevirtual idx, 3)) (hi : gI h = .inl (ci, ss)) (hc : vwCl[ci]? = some (N.1.cls, T, nf)) (ok : gOkV mLaw N idx as.length) (hw : (st.map fun v => v.category).sum ≤ 8)
    (kk : hG Y (pc + 3) lv (v :: st) σ1) : hG Y pc lv (as.reverse ++ .ref h :: st) σ := by
  intro p e s m below meth c H locs ls F hP hS hl
  obtain ⟨hin, hdd, hfr, hlo⟩ := ok
  have he : (gws Y.1.2.2.1 Y.1.2.2.2 σ)[h]? = some (Y.1.2.2.2 h, .inr (ci, gfs Y.1.2.2.2 σ h ss)) := by rw [gws_get (gI_lt hi), glay_o hi]
  have hw' : ((st.map (gv Y.1.2.2.2)).map fun v => v.category).sum ≤ 8 := by
    have : ((st.map (gv Y.1.2.2.2)).map fun v => v.category) = st.map fun v => v.category := by simp [Function.comp_def, gv_cat]
    rw [this]; exact hw
  have hgA : ∀ q, gA Y.1.2.2.2 q → s.heap.size ≤ q := by
    rintro q ⟨h, hh, rfl⟩
    exact F.2.2.2.2.2.2.2.2.2.2.2.1 h hh
  have hpre : ∀ U : State, U.heap = H → s.WarmedH U.vm → va_Pc ((Value.ref h :: as).map (gv Y.1.2.2.2)) (gB Y.1 σ) ((Value.ref h :: as).map (gv Y.1.2.2.2)).toArray U := by
    intro U hU hW
    exact ⟨rfl, gK.go hW F.2.2.2.2.2.2.2.2.2.1, by rw [hU]; exact hP, by rw [hU]; exact F.2.2.2.2.2.2.2.2.2.2.1.go hW.alike (fun a h1 _ => hS.2.1 a h1 (Nat.not_le.mpr h1))⟩
  refine W.eq (g2 := F0 m pc ls ((as.map (gv Y.1.2.2.2)).reverse ++ .ref (Y.1.2.2.2 h) :: st.map (gv Y.1.2.2.2))) (by simp [gv]) ?_
  have hcl := va_recv F.2.2.2.2.2.2.2.2.2.1.1 hP hc he
  have hr := va_runV (p := p) (l := Y.1.1) (e := e) (R := room_1) (below := below) (meth := meth) (H := H) (locs := locs) (cells := Y.2.2.2.2.1) (slots := Y.2.2.2.2.2) (g := F0 m pc ls ((as.map (gv Y.1.2.2.2)).reverse ++ .ref (Y.1.2.2.2 h) :: st.map (gv Y.1.2.2.2))) (As := as.map (gv Y.1.2.2.2)) (rest := st.map (gv Y.1.2.2.2)) (Ts := gWS) (own := R_law) (C := N.1.cls) (cc := code) (nL := 4) ⟨F.1, F.2.1, F.2.2.2.1, F.2.2.2.2.1, F.2.2.2.2.2.1⟩ hC (cwV as.length F.2.2.2.2.2.1 (gIn_good hin) rfl rfl rfl ⟨rfl, hdd⟩ ⟨hfr, hlo⟩) ⟨gB_blind, hcl, hpre⟩ rfl (by simp) hl.1 rfl (lv_room hw') hd ⟨F.2.2.2.2.2.2.2.2.2.2.2.2.2.1, F.2.2.2.2.2.2.2.2.2.2.2.2.2.2⟩
  intro T hT X
  obtain ⟨v', st₀, t, T', L, h0, X', hL, e1, e2, ⟨hv, hPt, hz, hk⟩, st1⟩ := hr T hT X
  have hv' : v' = some (gv Y.1.2.2.2 v) := Outcome.returned.inj hv
  subst hv'
  rw [h0] at hz hk
  have hS1 : va_S (fun q => s.heap.size ≤ q) s.heap T'.heap (locs ++ L) :=
    ⟨Nat.le_trans hS.1 (by rw [e1]; exact hz), fun q h1 h2 => by rw [e1, hk q (Nat.lt_of_lt_of_le h1 hS.1) (fun h => h2 (hgA q h))]; exact hS.2.1 q h1 h2, fun q hq => by
      rcases List.mem_append.mp hq with h | h
      · exact hS.2.2 q h
      · exact hgA _ (hL q h)⟩
  obtain ⟨t2, a1, b1⟩ := kk p e s m below meth c T'.heap (locs ++ L) ls F (by rw [e1]; exact hPt) hS1 hl T' rfl X'
  exact ⟨t2, st1 t2 a1, b1⟩
end HR

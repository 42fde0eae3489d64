/-! CONSTRUCTORS: the world while cells are being made: cell h lies at ad h = ad 0 + h; M: what the cells hold, references by number -/
def ncE (ad : Nat → Nat) (e : va_E) : va_E := match e with
  | .inl (c, n, .inr (.inr (.inr (.inr f)))) => .inl (c, n, .inr (.inr (.inr (.inr (fun i => (f i).map ad)))))
  | .inl a => .inl a
  | .inr q => .inr (q.1, q.2.map (gv ad))
def nws (ad : Nat → Nat) (M : List va_E) : va_W := M.mapIdx (fun h e => (ad h, ncE ad e))
theorem nws_get {ad : Nat → Nat} {h : Nat} {M : List va_E} {e : va_E} (hh : M[h]? = some e) : (nws ad M)[h]? = some (ad h, ncE ad e) := by simp [nws, hh]
theorem nws_push {ad : Nat → Nat} {M : List va_E} {e : va_E} : nws ad (M ++ [e]) = nws ad M ++ [(ad M.length, ncE ad e)] := by simp [nws, List.mapIdx_append]
theorem nws_set {ad : Nat → Nat} {h : Nat} {M : List va_E} {e : va_E} : (nws ad M).set h (ad h, ncE ad e) = nws ad (M.set h e) := by
  apply List.ext_getElem?
  intro i
  simp only [nws, List.getElem?_mapIdx, List.getElem?_set, List.length_mapIdx]
  by_cases hi : h = i
  · subst hi
    by_cases hl : h < M.length
    · simp [hl]
    · simp [hl]
  · simp [hi]
def nB0 (E : gE) : Prop := ∀ h, h < gNH → E.2.2.2 h = E.2.2.2 0 + h
def nA (E : gE) : Nat → Prop := fun q => E.2.2.2 0 ≤ q
theorem nws_D {E : gE} {M : List va_E} (h0 : nB0 E) (hl : M.length ≤ gNH) : va_D (nA E) (nws E.2.2.2 M) := by
  have key : ∀ (k : Nat) (q : Nat × va_E), (nws E.2.2.2 M)[k]? = some q → q.1 = E.2.2.2 0 + k := by
    intro k q hk
    simp only [nws, List.getElem?_mapIdx, Option.map_eq_some_iff] at hk
    obtain ⟨e, he, rfl⟩ := hk
    exact h0 k (Nat.lt_of_lt_of_le (List.getElem?_eq_some_iff.mp he).1 hl)
  refine ⟨fun i j p q hi hj hpq => ?_, fun k q hk => ?_⟩
  · have a := key i p hi
    have c := key j q hj
    omega
  · have a := key k q hk
    show E.2.2.2 0 ≤ q.1
    omega
def nP (E : gE) (M : List va_E) (H : Heap) : Prop := M.length ≤ gNH ∧ H.size = E.2.2.2 0 + M.length ∧ va_P E.2.1 vwCl (nws E.2.2.2 M) H
def nWd : String := "ground joint bar chain frame wheel at mesh belt shaft drive about "
def nBy : List Int32 := [103, 114, 111, 117, 110, 100, 32, 106, 111, 105, 110, 116, 32, 98, 97, 114, 32, 99, 104, 97, 105, 110, 32, 102, 114, 97, 109, 101, 32, 119, 104, 101, 101, 108, 32, 97, 116, 32, 109, 101, 115, 104, 32, 98, 101, 108, 116, 32, 115, 104, 97, 102, 116, 32, 100, 114, 105, 118, 101, 32, 97, 98, 111, 117, 116, 32]
/-- the words' String and the JDK's statics that its methods read -/
def nZ (E : gE) (U : State) (H : Heap) : Prop :=
  vk_R RX6 31 nWd (E.2.2.2 237) U ∧ va_O "java/lang/String" (E.2.2.2 237) (nA E) U H ∧ va_OF "java/lang/String" "coder" "B" (.int 0) (E.2.2.2 237) (nA E) U H ∧ va_OF "java/lang/String" "value" "[B" (.ref (E.2.2.2 238)) (E.2.2.2 237) (nA E) U H ∧ va_T .byte (E.2.2.2 238) 66 (fun j => .int (nBy.getD j 0)) (nA E) U H ∧ va_Z "java/lang/String" "COMPACT_STRINGS" "Z" (.int 1) (nA E) U H ∧ ∃ w : Value, w.category = 1 ∧ va_Z "jdk/internal/util/Preconditions" "SIOOBE_FORMATTER" "Ljava/util/function/BiFunction;" (gv E.2.2.2 w) (nA E) U H
theorem nZ.go {E : gE} {u U : State} {H H1 : Heap} (h : nZ E u H) (hR : vk_R RX6 31 nWd (E.2.2.2 237) U) (hvm : u.vm.Alike U.vm) (hq : ∀ a : Nat, a < H.size → ¬ nA E a → H1[a]? = H[a]?) : nZ E U H1 := by
  obtain ⟨-, h2, h3, h4, h5, h6, w, h7, h8⟩ := h
  exact ⟨hR, (va_O.moved hvm h2).kept hq, (va_OF.moved hvm h3).kept hq, (va_OF.moved hvm h4).kept hq, (va_T.moved hvm h5).kept hq, (va_Z.moved hvm h6).kept hq, w, h7, (va_Z.moved hvm h8).kept hq⟩
def nK (E : gE) (U : State) : Prop := va_K E.2.1 vwCl (gT E.2.2.1) U ∧ (∀ q ∈ gNFs, va_Nw (gNF q) U) ∧ (∀ q ∈ gNMs, va_Nw (gNM q) U) ∧ va_AO RX7 U ∧ gA5 E.2.2.1 U
theorem nK.go {E : gE} {s U : State} (hW : s.WarmedH U.vm) (h : nK E s) : nK E U := ⟨va_K.moved hW.alike h.1, fun q hq => va_Nw.warmF hW (h.2.1 q hq), fun q hq => va_Nw.warmM hW (h.2.2.1 q hq), h.2.2.2.1.moved hW.alike, h.2.2.2.2.go hW.alike⟩
def nBs (E : gE) (Mm : List va_E) (U : State) : Prop := nK E U ∧ nB0 E ∧ nP E Mm U.heap ∧ nZ E U U.heap
def nF (E : gE) (M : gM) (K N : Nat) (p : Program) (R : Room) (s : State) (m : MethodId) (args : Array Value) (meth : Method) (c : Code) : Prop :=
  p.tables.exec = Jvm.exec ∧ c.code = M.2.1 ∧ meth.sig.returnType = M.2.2.2.2.1 ∧ c.maxLocals = M.2.2.2.1 ∧ s.vm.findClass M.2.2.1 = some m.cls ∧ (∀ w ∈ gWS, w.before args s = true) ∧ meth.locks = false ∧ M.2.2.2.2.2.1 ≤ R.frames ∧ M.2.2.2.2.2.2 ≤ R.locals ∧ nK E s ∧ (K ≤ R.cells ∧ N ≤ R.slots) ∧ meth.name = M.1.name ∧ nB0 E ∧ nZ E s s.heap
def nQ (E : gE) (r : Option Value) (M' : List va_E) : Array Value → State → Outcome → State → Prop := fun _ st oc t => oc = .returned (r.map (gv E.2.2.2)) ∧ nP E M' t.heap ∧ va_F (nA E) st t
/-- from pc, with kc cells of nc slots made so far, the method returns r, the cells being M' then, K of N slots made in all -/
def nG (E : gE) (M : gM) (K N pc : Nat) (lv : List (Nat × Value)) (st : List Value) (Mm : List va_E) (kc nc : Nat) (r : Option Value) (M' : List va_E) : Prop :=
  ∀ (p : Program) (e : Env) (R : Room) (s : State) (m : MethodId) (args : Array Value) (below : List Frame) (meth : Method) (c : Code) (H : Heap) (locs : List Loc) (ls : Array Slot),
    nF E M K N p R s m args meth c → nP E Mm H → va_S (nA E) s.heap H locs → lv_has ls M.2.2.2.1 (gl E.2.2.2 lv) →
    W p E.1 e R s m args below meth c H locs kc nc (MQ below (nQ E r M') args s K N (nA E)) (F0 m pc ls (st.map (gv E.2.2.2)))
def nC (E : gE) (M : gM) (K N : Nat) (as : List Value) (Mm : List va_E) (r : Option Value) (M' : List va_E) : Prop :=
  Met E.1 M.1 (gCw M :: gWS) { frames := M.2.2.2.2.2.1, cells := K, slots := N, locals := M.2.2.2.2.2.2 } (va_Pc (as.map (gv E.2.2.2)) (nBs E Mm)) (nQ E r M') K N (nA E)
theorem nC_of {E : gE} {M : gM} {K N : Nat} {as : List Value} {Mm M' : List va_E} {r : Option Value} (hy : plainName M.1.cls = true) (hcl : M.1.cls = M.2.2.1) (hn : (lg_sl as).length ≤ M.2.2.2.1) (k : nG E M K N 0 (lv_args 0 as) [] Mm 0 0 r M') : nC E M K N as Mm r M' := by
  refine Met.ofW (cc := M.2.1) (maxL := M.2.2.2.1) (ret := M.2.2.2.2.1) hy rfl ?_
  intro p e s m args below meth c s₁ B hml hv
  obtain ⟨rfl, hK, hB, hP, hZ⟩ := hv
  have hts := atoms_spec (ws := gCw M :: gWS) B.pre
  have hown : s.vm.findClass M.1.cls = some m.cls := findClass_of_methodNamed B.named
  have hlen : (lg_sl (as.map (gv E.2.2.2))).length ≤ M.2.2.2.1 := by
    have e1 : ∀ vs : List Value, (lg_sl (vs.map (gv E.2.2.2))).length = (lg_sl vs).length := by
      intro vs
      induction vs with
      | nil => rfl
      | cons v vs ih =>
        have q : ∀ (w : Value) (ws : List Value), (lg_sl (w :: ws)).length = (if w.category = 2 then 2 else 1) + (lg_sl ws).length := by
          intro w ws
          by_cases h : w.category = 2
          · simp [lg_sl, h]; omega
          · simp [lg_sl, h]; omega
        rw [List.map_cons, q, q, gv_cat, ih]
    rw [e1]; exact hn
  have hl := lv_entry (as.map (gv E.2.2.2)) (n := M.2.2.2.1) hlen
  rw [lg_entry_eq]
  rw [gl_args] at hl
  exact k p e _ s m _ below meth c s.heap [] _ ⟨B.exec, B.bytes, B.returns, hml, by rw [← hcl]; exact hown, fun w hw => hts w (List.mem_cons_of_mem _ hw), B.notSynchronized, Nat.le_refl _, Nat.le_refl _, hK, ⟨Nat.le_refl _, Nat.le_refl _⟩, (name_of_methodNamed B.named B.method).1, hB, hZ⟩ hP va_S.rf hl
section NW
variable {E : gE} {p : Program} {e : Env} {R : Room} {s : State} {m : MethodId} {args : Array Value} {below : List Frame} {meth : Method} {c : Code} {H : Heap} {locs : List Loc} {Q : State → Prop} {ls : Array Slot} {kc nc pc : Nat} {cc : ByteArray} {own : String} {rest : List Value} {Mm : List va_E}
/-- a cell is made: the world with it behind the others -/
theorem nP_push {x : va_E} {H1 : Heap} (hB : nB0 E) (hP : nP E Mm H) (hS : va_S (nA E) s.heap H locs) (hlen : Mm.length < gNH) (z : H1.size = E.2.2.2 Mm.length + 1) (o : ∀ q, q < E.2.2.2 Mm.length → H1[q]? = H[q]?) (he : va_at E.2.1 vwCl (E.2.2.2 Mm.length, ncE E.2.2.2 x) H1) : nP E (Mm ++ [x]) H1 ∧ va_S (nA E) s.heap H1 locs := by
  obtain ⟨hl, hz, hP⟩ := hP
  have hB' := hB _ hlen
  refine ⟨⟨by simp; omega, by rw [z, hB']; simp; omega, ?_⟩, ⟨Nat.le_trans hS.1 (by omega), fun x h1 h2 => (o x (by have := hS.1; omega)).trans (hS.2.1 x h1 h2), hS.2.2⟩⟩
  rw [nws_push]
  have hk : ∀ (k : Nat) (x : Nat × va_E), (nws E.2.2.2 Mm)[k]? = some x → H1[x.1]? = H[x.1]? := fun k x hx => o x.1 (by have := (hP k x hx).lt; omega)
  refine (hP.kept hk).app (fun k x hx => ?_)
  have hz : k < 1 := (List.getElem?_eq_some_iff.mp hx).1
  rw [show k = 0 by omega] at hx
  cases hx
  exact he
theorem w_new {idx nf ci : Nat} {C : String} {T : u_T} {ty : Nat → FieldType} {fs : List Value} (hx : p.tables.exec = Jvm.exec) (hb : c.code = cc) (hts : ∀ w ∈ gWS, w.before args s = true) (hin : ∀ w ∈ u_ws C T nf, w ∈ gWS) (hty : ∀ k, k < nf → parseFieldDescriptor (T k).2.2.1 = some (ty k)) (hown : s.vm.findClass own = some m.cls) (hw : Cond.classLink own idx C ∈ gWS ∧ Cond.instantiable C nf ∈ gWS ∧ Cond.initialized C ∈ gWS) (hK : nK E s) (hB : nB0 E) (hP : nP E Mm H) (hS : va_S (nA E) s.heap H locs) (hlen : Mm.length < gNH) (hc : vwCl[ci]? = some (C, T, nf)) (hfs : ∀ j, j < nf → defaultValue (ty j) = vp_V fs j) (hg : ∀ ad, fs.map (gv ad) = fs) (hcells : kc + 1 ≤ R.cells) (hslots : nc + nf ≤ R.slots) (hd : decode cc pc = .ok (.new idx, 3))
    (kk : ∀ H1, nP E (Mm ++ [.inr (ci, fs)]) H1 → va_S (nA E) s.heap H1 locs → W p E.1 e R s m args below meth c H1 locs (kc + 1) (nc + nf) Q (F0 m (pc + 3) ls (.ref (E.2.2.2 Mm.length) :: rest))) : W p E.1 e R s m args below meth c H locs kc nc Q (F0 m pc ls rest) := by
  have hKn := hK.1.1 ci _ hc
  refine W.newcK hx hb hown (hts _ hw.1) (hts _ hw.2.1) (hts _ hw.2.2) rfl hd hcells hslots hKn.2.1 (h := E.2.2.2 Mm.length) (by rw [hP.2.1, hB _ hlen]) fun H1 kC hkC e1 z1 o1 => ?_
  obtain ⟨hP1, hS1⟩ := nP_push (x := .inr (ci, fs)) hB hP hS hlen z1 o1 ⟨_, hc, (u_born ty hts hin hKn hkC e1 hty).to (fun j hj => by rw [hfs j hj]; show vp_V fs j = vp_V (fs.map _) j; rw [hg])⟩
  exact kk H1 hP1 hS1
theorem w_newa {atype : ArrayType} {t : Nat} {ty : FieldType} {n : Int32} {N' : Nat} {z : vp_A} (hx : p.tables.exec = Jvm.exec) (hb : c.code = cc) (hts : ∀ w ∈ gWS, w.before args s = true) (hw : Cond.arrayClass ty ∈ gWS) (hty : newarray.typeOf atype = ty) (ht : (gT E.2.2.1)[t]? = some (E.2.2.1 t, ty)) (hra : ∀ U cA, va_RA U cA ty → U.vm.findClass ("[" ++ ty.toString) = some cA) (hK : nK E s) (hB : nB0 E) (hP : nP E Mm H) (hS : va_S (nA E) s.heap H locs) (hlen : Mm.length < gNH) (hz : ∀ cA : ClassId, vp_cell cA z = arrV cA N' (fun _ => defaultValue ty)) (hnc : ∀ ad cA, ncE ad (.inl (cA, z)) = .inl (cA, z)) (hn : ¬ n < 0) (hN : n.toNatClampNeg = N') (hbytes : N' * componentBytes ty ≤ 536870912) (hcells : kc + 1 ≤ R.cells) (hslots : nc + N' ≤ R.slots) (hd : decode cc pc = .ok (.newarray atype, 2))
    (kk : ∀ H1, nP E (Mm ++ [.inl (E.2.2.1 t, z)]) H1 → va_S (nA E) s.heap H1 locs → W p E.1 e R s m args below meth c H1 locs (kc + 1) (nc + N') Q (F0 m (pc + 2) ls (.ref (E.2.2.2 Mm.length) :: rest))) : W p E.1 e R s m args below meth c H locs kc nc Q (F0 m pc ls (.int n :: rest)) := by
  subst hty
  refine va_newaK hx hb (hts _ hw) rfl hd rfl hn hN hbytes hcells hslots (h := E.2.2.2 Mm.length) (by rw [hP.2.1, hB _ hlen]) fun H1 cA e1 z1 o1 hAr hNm => ?_
  have hcA : cA = E.2.2.1 t := Option.some.inj (hNm.symm.trans (hra s _ (hK.1.2 t _ ht).2))
  subst hcA
  obtain ⟨hP1, hS1⟩ := nP_push (x := .inl (E.2.2.1 t, z)) hB hP hS hlen z1 o1 (by rw [hnc]; show H1[_]? = some (vp_cell _ _); rw [hz]; exact e1)
  exact kk H1 hP1 hS1
theorem n_run {mc ms : Nat} {st0 : List Value} {r1 : Option Value} {M1 : List va_E} {a : Array Value}
    (hr : va_Run p E.1 e R s m args below meth c H locs kc nc mc ms (F0 m pc ls st0) rest (nQ E r1 M1 a) (nA E)) (hS : va_S (nA E) s.heap H locs)
    (kk : ∀ (H1 : Heap) (locs1 : List Loc), nP E M1 H1 → va_S (nA E) s.heap H1 locs1 → W p E.1 e R s m args below meth c H1 locs1 (kc + mc) (nc + ms) Q (F0 m (pc + 3) ls ((r1.map (gv E.2.2.2)).toList ++ rest))) : W p E.1 e R s m args below meth c H locs kc nc Q (F0 m pc ls st0) := by
  intro T hT X
  obtain ⟨v, st₀, t, T', L, h0, X', hL, e1, e2, ⟨hv, hPt, hz, hk⟩, st⟩ := hr T hT X
  have hv' : v = r1.map (gv E.2.2.2) := Outcome.returned.inj hv
  subst hv'
  rw [h0] at hz hk
  obtain ⟨t2, a1, b1⟩ := kk T'.heap (locs ++ L) (by rw [e1]; exact hPt)
    ⟨Nat.le_trans hS.1 (by rw [e1]; exact hz), fun q h1 h2 => by rw [e1, hk q (Nat.lt_of_lt_of_le h1 hS.1) h2]; exact hS.2.1 q h1 h2, fun q hq => by
      rcases List.mem_append.mp hq with h | h
      · exact hS.2.2 q h
      · exact hL q h⟩ T' rfl X'
  exact ⟨t2, st t2 a1, b1⟩
theorem n_pre {as : List Value} (hK : nK E s) (hB : nB0 E) (hZ : nZ E s s.heap) (hP : nP E Mm H) (hS : va_S (nA E) s.heap H locs) : ∀ U : State, U.heap = H → s.WarmedH U.vm → va_Pc (as.map (gv E.2.2.2)) (nBs E Mm) (as.map (gv E.2.2.2)).toArray U := by
  intro U hU hW
  exact ⟨rfl, nK.go hW hK, hB, by rw [hU]; exact hP, by rw [hU]; exact hZ.go (vk_R.warm hW hZ.1) hW.alike (fun a h1 h2 => hS.2.1 a h1 h2)⟩
theorem n_blind {as : List Value} : FrameBlind (va_Pc (as.map (gv E.2.2.2)) (nBs E Mm)) := by
  intro a U g mk h
  obtain ⟨h1, hK, hB, hP, hZ⟩ := h
  exact ⟨h1, ⟨va_K.moved (u := U) (U := U.calling g mk a) (Vm.Alike.refl U.vm) hK.1, fun q hq => va_Nw.same rfl rfl (hK.2.1 q hq), fun q hq => va_Nw.same rfl rfl (hK.2.2.1 q hq), hK.2.2.2.1.moved (u := U) (U := U.calling g mk a) (Vm.Alike.refl U.vm), hK.2.2.2.2.go (u := U) (U := U.calling g mk a) (Vm.Alike.refl U.vm)⟩, hB, hP, hZ.go (vk_R.same rfl hZ.1) (Vm.Alike.refl U.vm) (fun _ _ _ => rfl)⟩
/-- words, class and room of a constructor's call: by its link, or by the nest mates' -/
def nOk (M N : gM) (idx K0 N0 : Nat) : Prop := gIn (gCw N :: [.instanceMethod N.1, .initialized N.1.cls]) ∧ (Cond.methodLink M.2.2.1 idx N.1 ∈ gWS ∨ (M.2.2.1, idx, N.1, "LinkageCurves") ∈ gNMs) ∧ (N.1.cls ≠ "java/lang/invoke/MethodHandle" ∧ N.1.cls ≠ "java/lang/invoke/VarHandle" ∧ (parseMethodDescriptor N.1.desc).map (fun d => d.parameters.length) = some 0) ∧ N.2.2.2.2.2.1 + 1 ≤ M.2.2.2.2.2.1 ∧ 8 + (N.2.2.2.1 + 11) + N.2.2.2.2.2.2 ≤ M.2.2.2.2.2.2 ∧ N.1.name = "<init>" ∧ N.2.2.2.2.1 = none
theorem w_init {M N : gM} {idx h K0 N0 : Nat} {M1 : List va_E} (hC : nC E N K0 N0 [.ref h] Mm none M1) (hx : p.tables.exec = Jvm.exec) (hb : c.code = M.2.1) (hml : c.maxLocals = M.2.2.2.1) (hown : s.vm.findClass M.2.2.1 = some m.cls) (hts : ∀ w ∈ gWS, w.before args s = true) (hR : M.2.2.2.2.2.1 ≤ R.frames ∧ M.2.2.2.2.2.2 ≤ R.locals) (hK : nK E s) (hB : nB0 E) (hZ : nZ E s s.heap) (hP : nP E Mm H) (hS : va_S (nA E) s.heap H locs) (ok : nOk M N idx K0 N0) (hls : ls.size = M.2.2.2.1) (hd : decode M.2.1 pc = .ok (.invokespecial idx, 3)) (hw : (rest.map fun v => v.category).sum ≤ 8) (hf : kc + K0 ≤ R.cells ∧ nc + N0 ≤ R.slots)
    (kk : ∀ (H1 : Heap) (locs1 : List Loc), nP E M1 H1 → va_S (nA E) s.heap H1 locs1 → W p E.1 e R s m args below meth c H1 locs1 (kc + K0) (nc + N0) Q (F0 m (pc + 3) ls rest)) : W p E.1 e R s m args below meth c H locs kc nc Q (F0 m pc ls (.ref (E.2.2.2 h) :: rest)) := by
  obtain ⟨hin, hlk, hdd, hfr, hlo, hnm, hret⟩ := ok
  have hC' : Met E.1 N.1 (gCw N :: gWS) _ _ _ K0 N0 (nA E) := hC
  have hcode : GoodIn gWS (gCw N :: gWS) := fun w hw => gIn_good hin w (List.mem_append_right _ hw)
  have hcw : gCw N = Cond.code N.1 N.2.1 N.2.2.2.1 none := by unfold gCw; rw [hret]
  have hpre := n_pre (as := [.ref h]) hK hB hZ hP hS
  rcases hlk with hlk | hlk
  · exact n_run (va_runI (As := []) (rest := rest) (b := E.2.2.2 h) (Ts := gWS) (own := M.2.2.1) ⟨hx, hb, hml, hown, hts⟩ hC' (cwI 0 hts hcode (by rw [hcw]) rfl rfl (hts _ (hin _ (by simp))) (hts _ hlk) (hts _ (hin _ (by simp))) hnm hdd ⟨Nat.le_trans hfr hR.1, Nat.le_trans hlo hR.2⟩) ⟨n_blind, hpre⟩ rfl rfl hls rfl (lv_room hw) hd hf) hS (fun H1 locs1 hP1 hS1 => kk H1 locs1 hP1 hS1)
  · exact n_run (va_runIN (As := []) (rest := rest) (b := E.2.2.2 h) (Ts := gWS) (own := M.2.2.1) ⟨hx, hb, hml, hown, hts⟩ hC' ⟨va_cnB 0 hts hcode (by rw [hcw]) rfl rfl (hK.2.2.1 _ hlk) (hts _ (hin _ (by simp))) hdd ⟨Nat.le_trans hfr hR.1, Nat.le_trans hlo hR.2⟩, hnm, hts _ (hin _ (by simp))⟩ ⟨n_blind, hpre⟩ rfl rfl hls rfl (lv_room hw) hd hf) hS (fun H1 locs1 hP1 hS1 => kk H1 locs1 hP1 hS1)
theorem w_put {idx ci k q0 a Nf : Nat} {C : String} {T : u_T} {fs : List Value} {v : Value} {ty : FieldType} {ty0 : Nat → FieldType} {ws : va_W} {A : Nat → Prop} (hx : p.tables.exec = Jvm.exec) (hb : c.code = cc) (hts : ∀ w ∈ gWS, w.before args s = true) (hin : ∀ w ∈ u_ws C T Nf, w ∈ gWS) (hty0 : ∀ j, j < Nf → parseFieldDescriptor (T j).2.2.1 = some (ty0 j)) (hnm : ∀ a, a < Nf → ∀ b, b < Nf → a ≠ b → (T a).2.1 ≠ (T b).2.1) (hown : s.vm.findClass own = some m.cls) (hK : nK E s) (hP : va_P E.2.1 vwCl ws H) (hD : va_D A ws) (hS : va_S A s.heap H locs) (he : ws[q0]? = some (a, .inr (ci, fs))) (hc : vwCl[ci]? = some (C, T, Nf)) (hk : k < Nf) (hlink : (Cond.fieldLink own idx (T k).1 (T k).2.1 (T k).2.2.1).before args s = true) (hfin : (T k).2.2.2 = false ∨ ((T k).2.2.2 = true ∧ meth.name = "<init>" ∧ (T k).1 = own)) (hd : parseFieldDescriptor (T k).2.2.1 = some ty) (hn : narrow ty v = v) (hfit : fits ty v = true) (hl : k < fs.length) (hdg : decode cc pc = .ok (.putfield idx, 3))
    (kk : ∀ (H1 : Heap) (locs1 : List Loc), va_P E.2.1 vwCl (ws.set q0 (a, .inr (ci, fs.set k v))) H1 → H1.size = H.size → va_S A s.heap H1 locs1 → W p E.1 e R s m args below meth c H1 locs1 kc nc Q (F0 m (pc + 3) ls rest)) : W p E.1 e R s m args below meth c H locs kc nc Q (F0 m pc ls (v :: .ref a :: rest)) := by
  have hap := va_apart (own := own) hts hin ty0 hty0 hnm hK.1 hc
  obtain ⟨r, h1, cell, q1, q2, q3, q4⟩ := hP q0 _ he
  cases Option.some.inj (h1.symm.trans hc)
  obtain ⟨hSl, hfc, kC, hkC, hkind⟩ := hK.1.1 ci _ hc
  obtain ⟨cf, kf, fi, f, hi, hsl⟩ := hSl k hk
  have hst := (u_facts hfc hkC (u_lays hts hin hk) hi).1
  have hlay := hts _ (hin _ (u_in_lay hk))
  unfold u_lay at hlay
  rcases hfin with hfin | ⟨hfin, hnam, hdecl⟩
  · rw [if_neg (by rw [hfin]; decide)] at hlay
    have h6 := u_store hfc hkC hkind hlay hi hd hn hfit
    refine W.putK hx hb (f := f) ⟨hown, hlink, ⟨_, _, _, hi⟩, hst⟩ (by rw [q2]; exact h6) q1 q3 (by rw [hsl]; exact k2_hasslot (q4 k hk)) rfl rfl hdg fun H' e1 e2 e3 => ?_
    rw [hsl] at e1 ⊢
    exact kk H' _ (hP.set hD he ⟨_, hc, t_OB.to (V := updV (vp_V fs) k v) ⟨_, e1, q2, q3, t_set q4 hap hk v⟩ (fun j _ => vp_updV_set hl v j)⟩ e3) e2 (hS.put e2 e3 (hD.2 q0 _ he))
  · rw [if_pos hfin] at hlay
    have hcf : m.cls = cf := by
      obtain ⟨_, _, c', _, _, _, -, -, hf', -, -, -, hown2, -⟩ := Cond.laysFinal_spec hlay
      have e1 : c' = cf := by have := hi.symm.trans hf'; simp at this; exact this.1.symm
      rw [hdecl] at hown2
      rw [← e1]; exact Option.some.inj (hown.symm.trans hown2)
    have h6 := u_fits hfc hkC hkind (Or.inr hlay) hi hd hn hfit
    refine W.putFinK hx hb hown hlink hi hst hcf hnam (by rw [q2]; exact h6) q1 q3 (by rw [hsl]; exact k2_hasslot (q4 k hk)) rfl rfl hdg fun H' e1 e2 e3 => ?_
    rw [hsl] at e1 ⊢
    exact kk H' _ (hP.set hD he ⟨_, hc, t_OB.to (V := updV (vp_V fs) k v) ⟨_, e1, q2, q3, t_set q4 hap hk v⟩ (fun j _ => vp_updV_set hl v j)⟩ e3) e2 (hS.put e2 e3 (hD.2 q0 _ he))
end NW

def gNFs : List (String × Nat × String × String × String × String) := [
  ("LinkageCurves", 116, "LinkageCurves$Linkage", "kinds", "[I", "LinkageCurves"),
  ("LinkageCurves", 120, "LinkageCurves$Linkage", "numbers", "[I", "LinkageCurves"),
  ("LinkageCurves", 123, "LinkageCurves$Linkage", "firsts", "[I", "LinkageCurves"),
  ("LinkageCurves", 126, "LinkageCurves$Linkage", "seconds", "[I", "LinkageCurves"),
  ("LinkageCurves", 105, "LinkageCurves$Linkage", "parts", "I", "LinkageCurves"),
  ("LinkageCurves$Turning", 49, "LinkageCurves$Linkage", "driven", "I", "LinkageCurves"),
  ("LinkageCurves", 164, "LinkageCurves$Linkage", "driven", "I", "LinkageCurves"),
  ("LinkageCurves$Reader", 156, "LinkageCurves$Linkage", "driven", "I", "LinkageCurves"),
  ("LinkageCurves$Turning", 99, "LinkageCurves$Linkage", "about", "I", "LinkageCurves"),
  ("LinkageCurves$Reader", 159, "LinkageCurves$Linkage", "about", "I", "LinkageCurves"),
  ("LinkageCurves", 344, "LinkageCurves$Linkage", "about", "I", "LinkageCurves"),
  ("LinkageCurves", 338, "LinkageCurves$Reader", "length", "I", "LinkageCurves"),
  ("LinkageCurves", 109, "LinkageCurves$Reader", "faultPlace", "I", "LinkageCurves"),
  ("LinkageCurves", 133, "LinkageCurves$Counts", "neededBar", "[Z", "LinkageCurves"),
  ("LinkageCurves", 140, "LinkageCurves$Counts", "leastBar", "[I", "LinkageCurves"),
  ("LinkageCurves", 332, "LinkageCurves$Counts", "ties", "I", "LinkageCurves"),
  ("LinkageCurves", 143, "LinkageCurves$Counts", "mobility", "I", "LinkageCurves"),
  ("LinkageCurves", 335, "LinkageCurves$Counts", "clusters", "I", "LinkageCurves"),
  ("LinkageCurves", 152, "LinkageCurves$Matrix", "rows", "I", "LinkageCurves"),
  ("LinkageCurves", 149, "LinkageCurves$Matrix", "columns", "I", "LinkageCurves"),
  ("LinkageCurves", 146, "LinkageCurves$Matrix", "rank", "I", "LinkageCurves"),
  ("LinkageCurves", 199, "LinkageCurves$Turning", "sequence", "[I", "LinkageCurves"),
  ("LinkageCurves", 169, "LinkageCurves$Turning", "hanging", "I", "LinkageCurves"),
  ("LinkageCurves", 202, "LinkageCurves$Turning", "onA", "[I", "LinkageCurves"),
  ("LinkageCurves", 205, "LinkageCurves$Turning", "onB", "[I", "LinkageCurves"),
  ("LinkageCurves", 208, "LinkageCurves$Turning", "side", "[I", "LinkageCurves"),
  ("LinkageCurves$Curve", 51, "LinkageCurves$Places", "x", "[J", "LinkageCurves"),
  ("LinkageCurves$Turning", 102, "LinkageCurves$Places", "x", "[J", "LinkageCurves"),
  ("LinkageCurves", 192, "LinkageCurves$Places", "x", "[J", "LinkageCurves"),
  ("LinkageCurves$Curve", 52, "LinkageCurves$Places", "y", "[J", "LinkageCurves"),
  ("LinkageCurves$Turning", 109, "LinkageCurves$Places", "y", "[J", "LinkageCurves"),
  ("LinkageCurves", 196, "LinkageCurves$Places", "y", "[J", "LinkageCurves"),
  ("LinkageCurves$Curve", 47, "LinkageCurves$Places", "reason", "[I", "LinkageCurves"),
  ("LinkageCurves$Turning", 80, "LinkageCurves$Places", "reason", "[I", "LinkageCurves"),
  ("LinkageCurves", 187, "LinkageCurves$Places", "reason", "[I", "LinkageCurves"),
  ("LinkageCurves", 102, "LinkageCurves$Curve", "drawn", "Z", "LinkageCurves"),
  ("LinkageCurves", 215, "LinkageCurves$Curve", "howMany", "I", "LinkageCurves"),
  ("LinkageCurves", 217, "LinkageCurves$Curve", "isPlaced", "[Z", "LinkageCurves"),
  ("LinkageCurves", 235, "LinkageCurves$Train", "reached", "[I", "LinkageCurves"),
  ("LinkageCurves", 238, "LinkageCurves$Train", "upper", "[J", "LinkageCurves"),
  ("LinkageCurves", 241, "LinkageCurves$Train", "lower", "[J", "LinkageCurves"),
  ("LinkageCurves", 287, "LinkageCurves$Asks", "bodies", "[I", "LinkageCurves"),
  ("LinkageCurves", 284, "LinkageCurves$Asks", "begun", "I", "LinkageCurves"),
  ("LinkageCurves", 275, "LinkageCurves$Asks", "byNought", "Z", "LinkageCurves"),
  ("LinkageCurves", 302, "LinkageCurves$Row", "isThere", "Z", "LinkageCurves"),
  ("LinkageCurves", 317, "LinkageCurves$Row", "lane", "I", "LinkageCurves"),
  ("LinkageCurves", 305, "LinkageCurves$Row", "size", "I", "LinkageCurves"),
  ("LinkageCurves", 314, "LinkageCurves$Row", "items", "[J", "LinkageCurves"),
  ("LinkageCurves$Linkage", 52, "LinkageCurves", "MOST_OF_FAMILY", "[I", "LinkageCurves"),
  ("LinkageCurves$Linkage", 55, "LinkageCurves", "FAMILY_OF_KIND", "[I", "LinkageCurves"),
  ("LinkageCurves$Linkage", 92, "LinkageCurves", "WIDER_KIND", "[I", "LinkageCurves")]
def gNMs : List (String × Nat × MethodName × String) := [
  ("LinkageCurves$Reader", 21, ⟨"LinkageCurves$Linkage", "<init>", "()V"⟩, "LinkageCurves"),
  ("LinkageCurves", 18, ⟨"LinkageCurves$Linkage", "<init>", "()V"⟩, "LinkageCurves"),
  ("LinkageCurves", 25, ⟨"LinkageCurves$Counts", "<init>", "()V"⟩, "LinkageCurves"),
  ("LinkageCurves", 32, ⟨"LinkageCurves$Matrix", "<init>", "()V"⟩, "LinkageCurves"),
  ("LinkageCurves", 39, ⟨"LinkageCurves$Turning", "<init>", "()V"⟩, "LinkageCurves"),
  ("LinkageCurves", 46, ⟨"LinkageCurves$Places", "<init>", "()V"⟩, "LinkageCurves"),
  ("LinkageCurves", 53, ⟨"LinkageCurves$Curve", "<init>", "()V"⟩, "LinkageCurves"),
  ("LinkageCurves$Curve", 24, ⟨"LinkageCurves$Places", "<init>", "()V"⟩, "LinkageCurves"),
  ("LinkageCurves", 60, ⟨"LinkageCurves$Train", "<init>", "()V"⟩, "LinkageCurves"),
  ("LinkageCurves", 67, ⟨"LinkageCurves$Asks", "<init>", "()V"⟩, "LinkageCurves"),
  ("LinkageCurves", 78, ⟨"LinkageCurves$Row", "<init>", "()V"⟩, "LinkageCurves"),
  ("LinkageCurves$Turning", 123, ⟨"LinkageCurves", "rootDown", "(J)J"⟩, "LinkageCurves"),
  ("LinkageCurves$Linkage", 88, ⟨"LinkageCurves", "rootDown", "(J)J"⟩, "LinkageCurves")]
/-! WHAT HOLDS WHILE A METHOD RUNS -/
/-- the world's own: launch, classes and slots, array classes, addresses -/
abbrev gE : Type := Launch × va_G × (Nat → ClassId) × (Nat → Nat)
/-- a method's own: name, bytes, class, locals, result, frames and words of room -/
abbrev gM : Type := MethodName × ByteArray × String × Nat × Option FieldType × Nat × Nat
abbrev gT (cy : Nat → ClassId) : List (ClassId × FieldType) := [(cy 0, .int), (cy 1, .long), (cy 2, .byte), (cy 3, .boolean), (cy 4, .object RX7), (cy 5, .array .int)]
def gWS : List Cond := lw_tbl.filter goodWord
theorem gWS_in {w : Cond} (h : w ∈ gWS) : w ∈ lw_tbl := (List.mem_filter.mp h).1
theorem gWS_good {w : Cond} (h : w ∈ gWS) : goodWord w = true := (List.mem_filter.mp h).2
/-- the words on nest mates' fields and methods -/
def gNF (q : String × Nat × String × String × String × String) : Cond := .fieldLinkNest q.1 q.2.1 q.2.2.1 q.2.2.2.1 q.2.2.2.2.1 q.2.2.2.2.2
def gNM (q : String × Nat × MethodName × String) : Cond := .methodLinkNest q.1 q.2.1 q.2.2.1 q.2.2.2
def gW0 (j : Nat) : Int32 := [-1000000, 0, -1000000, -1000000, -1000000, 4, 5].getD j 0
def gW1 (j : Nat) : Int32 := [0, 0, 1, 2, 3, 3, 3].getD j 0
def gW2 (j : Nat) : Int32 := [24, 60, 16, 30].getD j 0
/-- the three static tables, as cells 233, 234, 235 -/
def gSt (ad : Nat → Nat) (U : State) (H : Heap) : Prop :=
  (va_Z RX10 "WIDER_KIND" "[I" (.ref (ad 233)) (gA ad) U H ∧ va_T .int (ad 233) 7 (fun j => .int (gW0 j)) (gA ad) U H) ∧
  (va_Z RX10 "FAMILY_OF_KIND" "[I" (.ref (ad 234)) (gA ad) U H ∧ va_T .int (ad 234) 7 (fun j => .int (gW1 j)) (gA ad) U H) ∧
  (va_Z RX10 "MOST_OF_FAMILY" "[I" (.ref (ad 235)) (gA ad) U H ∧ va_T .int (ad 235) 4 (fun j => .int (gW2 j)) (gA ad) U H)
theorem gSt.go {ad : Nat → Nat} {u U : State} {H H1 : Heap} (h : gSt ad u H) (hvm : u.vm.Alike U.vm) (hq : ∀ a : Nat, a < H.size → ¬ gA ad a → H1[a]? = H[a]?) : gSt ad U H1 :=
  ⟨⟨(h.1.1.moved hvm).kept hq, (h.1.2.moved hvm).kept hq⟩, ⟨(h.2.1.1.moved hvm).kept hq, (h.2.1.2.moved hvm).kept hq⟩, ⟨(h.2.2.1.moved hvm).kept hq, (h.2.2.2.moved hvm).kept hq⟩⟩
/-- the class of int[][]: its component is that of int[] -/
def gA5 (cy : Nat → ClassId) (U : State) : Prop := ∃ (k kc : Class), U.vm.classes[cy 5]? = some k ∧ k.kind = .array (cy 0) (.array .int) ∧ U.vm.classes[cy 0]? = some kc
theorem gA5.go {cy : Nat → ClassId} {u U : State} (hvm : u.vm.Alike U.vm) (h : gA5 cy u) : gA5 cy U := by
  obtain ⟨k, kc, h1, h2, h3⟩ := h
  obtain ⟨k', hk', he⟩ := hvm.2.2 _ _ h1
  obtain ⟨kc', hkc', -⟩ := hvm.2.2 _ _ h3
  exact ⟨k', kc', hk', by rw [he]; exact h2, hkc'⟩
def gK (E : gE) (U : State) : Prop := va_K E.2.1 vwCl (gT E.2.2.1) U ∧ (∀ q ∈ gNFs, va_Nw (gNF q) U) ∧ (∀ q ∈ gNMs, va_Nw (gNM q) U) ∧ gInj E.2.2.2 ∧ gA5 E.2.2.1 U
theorem gK.go {E : gE} {s U : State} (hW : s.WarmedH U.vm) (h : gK E s) : gK E U := ⟨va_K.moved hW.alike h.1, fun q hq => va_Nw.warmF hW (h.2.1 q hq), fun q hq => va_Nw.warmM hW (h.2.2.1 q hq), h.2.2.2.1, h.2.2.2.2.go hW.alike⟩
def gB (E : gE) (σ : gS) (U : State) : Prop := gK E U ∧ va_P E.2.1 vwCl (gws E.2.2.1 E.2.2.2 σ) U.heap ∧ gSt E.2.2.2 U U.heap
def gQ (E : gE) (r : Option Value) (σ' : gS) : Array Value → State → Outcome → State → Prop := fun _ st oc t => oc = .returned (r.map (gv E.2.2.2)) ∧ va_P E.2.1 vwCl (gws E.2.2.1 E.2.2.2 σ') t.heap ∧ va_F (gA E.2.2.2) st t
def gF (E : gE) (M : gM) (p : Program) (R : Room) (s : State) (m : MethodId) (args : Array Value) (meth : Method) (c : Code) : Prop :=
  p.tables.exec = Jvm.exec ∧ c.code = M.2.1 ∧ meth.sig.returnType = M.2.2.2.2.1 ∧ c.maxLocals = M.2.2.2.1 ∧ s.vm.findClass M.2.2.1 = some m.cls ∧ (∀ w ∈ gWS, w.before args s = true) ∧ meth.locks = false ∧ M.2.2.2.2.2.1 ≤ R.frames ∧ M.2.2.2.2.2.2 ≤ R.locals ∧ gK E s ∧ gSt E.2.2.2 s s.heap
/-- THE JUDGEMENT: from pc with these locals, this stack, this state, the method returns r, the state being σ' then -/
def gG (E : gE) (M : gM) (pc : Nat) (lv : List (Nat × Value)) (st : List Value) (σ : gS) (r : Option Value) (σ' : gS) : Prop :=
  ∀ (p : Program) (e : Env) (R : Room) (s : State) (m : MethodId) (args : Array Value) (below : List Frame) (meth : Method) (c : Code) (H : Heap) (locs : List Loc) (ls : Array Slot),
    gF E M p R s m args meth c → va_P E.2.1 vwCl (gws E.2.2.1 E.2.2.2 σ) H → va_S (gA E.2.2.2) s.heap H locs → lv_has ls M.2.2.2.1 (gl E.2.2.2 lv) →
    W p E.1 e R s m args below meth c H locs 0 0 (MQ below (gQ E r σ') args s 0 0 (gA E.2.2.2)) (F0 m pc ls (st.map (gv E.2.2.2)))
def gCw (M : gM) : Cond := .code M.1 M.2.1 M.2.2.2.1 M.2.2.2.2.1
/-- THE CONTRACT of a method: with these arguments, this state, it returns r, the state being σ' then -/
def gC (E : gE) (M : gM) (as : List Value) (σ : gS) (r : Option Value) (σ' : gS) : Prop :=
  Met E.1 M.1 (gCw M :: gWS) { frames := M.2.2.2.2.2.1, cells := 0, slots := 0, locals := M.2.2.2.2.2.2 } (va_Pc (as.map (gv E.2.2.2)) (gB E σ)) (gQ E r σ') 0 0 (gA E.2.2.2)
theorem gC_of {E : gE} {M : gM} {as : List Value} {σ σ' : gS} {r : Option Value} (hy : plainName M.1.cls = true) (hcl : M.1.cls = M.2.2.1) (hn : (lg_sl as).length ≤ M.2.2.2.1) (k : gG E M 0 (lv_args 0 as) [] σ r σ') : gC E M as σ r σ' := by
  refine Met.ofW (cc := M.2.1) (maxL := M.2.2.2.1) (ret := M.2.2.2.2.1) hy rfl ?_
  intro p e s m args below meth c s₁ B hml hv
  obtain ⟨rfl, hK, hP, hSt⟩ := hv
  have hts := atoms_spec (ws := gCw M :: gWS) B.pre
  have hown : s.vm.findClass M.1.cls = some m.cls := findClass_of_methodNamed B.named
  have hlen : (lg_sl (as.map (gv E.2.2.2))).length ≤ M.2.2.2.1 := by
    have e1 : ∀ vs : List Value, (lg_sl (vs.map (gv E.2.2.2))).length = (lg_sl vs).length := by
      intro vs
      induction vs with
      | nil => rfl
      | cons v vs ih =>
        have q : ∀ (w : Value) (ws : List Value), (lg_sl (w :: ws)).length = (if w.category = 2 then 2 else 1) + (lg_sl ws).length := by
          intro w ws
          by_cases h : w.category = 2
          · simp [lg_sl, h]; omega
          · simp [lg_sl, h]; omega
        rw [List.map_cons, q, q, gv_cat, ih]
    rw [e1]; exact hn
  have hl := lv_entry (as.map (gv E.2.2.2)) (n := M.2.2.2.1) hlen
  rw [lg_entry_eq]
  rw [gl_args] at hl
  exact k p e _ s m _ below meth c s.heap [] _ ⟨B.exec, B.bytes, B.returns, hml, by rw [← hcl]; exact hown, fun w hw => hts w (List.mem_cons_of_mem _ hw), B.notSynchronized, Nat.le_refl _, Nat.le_refl _, hK, hSt⟩ hP va_S.rf hl
section GR
variable {E : gE} {M : gM} {pc : Nat} {lv : List (Nat × Value)} {st : List Value} {σ σ' : gS} {r : Option Value}
theorem g_sub (ks : List Nat) {lv' : List (Nat × Value)} (hs : lv_pick lv ks = lv') (k : gG E M pc lv' st σ r σ') : gG E M pc lv st σ r σ' :=
  fun p e R s m args below meth c H locs ls F hP hS hl => k p e R s m args below meth c H locs ls F hP hS (by rw [← hs, ← gl_pick]; exact lv_sub hl ks rfl)
theorem g_ext {lv' : List (Nat × Value)} {st' : List Value} (h1 : lv = lv') (h2 : st = st') (k : gG E M pc lv' st' σ r σ') : gG E M pc lv st σ r σ' := by subst h1; subst h2; exact k
theorem g_iconst {n : Int} {v : Int32} (hd : decode M.2.1 pc = .ok (.iconst n, 1)) (hv : Int32.ofInt n = v) (k : gG E M (pc + 1) lv (.int v :: st) σ r σ') : gG E M pc lv (st) σ r σ' :=
  fun p e R s m args below meth c H locs ls F hP hS hl => lv_iconst F.1 F.2.1 hd hv (k p e R s m args below meth c H locs ls F hP hS hl)
theorem g_bipush {n : Int} {v : Int32} (hd : decode M.2.1 pc = .ok (.bipush n, 2)) (hv : (Int8.ofInt n).toInt32 = v) (k : gG E M (pc + 2) lv (.int v :: st) σ r σ') : gG E M pc lv (st) σ r σ' :=
  fun p e R s m args below meth c H locs ls F hP hS hl => lv_bipush F.1 F.2.1 hd hv (k p e R s m args below meth c H locs ls F hP hS hl)
theorem g_sipush {n : Int} {v : Int32} (hd : decode M.2.1 pc = .ok (.sipush n, 3)) (hv : (Int16.ofInt n).toInt32 = v) (k : gG E M (pc + 3) lv (.int v :: st) σ r σ') : gG E M pc lv (st) σ r σ' :=
  fun p e R s m args below meth c H locs ls F hP hS hl => lv_sipush F.1 F.2.1 hd hv (k p e R s m args below meth c H locs ls F hP hS hl)
theorem g_lconst {n : Fin 2} {v : Int64} (hd : decode M.2.1 pc = .ok (.lconst n, 1)) (hv : Int64.ofNat (n : Nat) = v) (k : gG E M (pc + 1) lv (.long v :: st) σ r σ') : gG E M pc lv (st) σ r σ' :=
  fun p e R s m args below meth c H locs ls F hP hS hl => lv_lconst F.1 F.2.1 hd hv (k p e R s m args below meth c H locs ls F hP hS hl)
theorem g_iadd {x y : Int32} (hd : decode M.2.1 pc = .ok (.iadd, 1)) (k : gG E M (pc + 1) lv (.int (x + y) :: st) σ r σ') : gG E M pc lv (.int y :: .int x :: st) σ r σ' :=
  fun p e R s m args below meth c H locs ls F hP hS hl => lv_iadd F.1 F.2.1 hd (k p e R s m args below meth c H locs ls F hP hS hl)
theorem g_isub {x y : Int32} (hd : decode M.2.1 pc = .ok (.isub, 1)) (k : gG E M (pc + 1) lv (.int (x - y) :: st) σ r σ') : gG E M pc lv (.int y :: .int x :: st) σ r σ' :=
  fun p e R s m args below meth c H locs ls F hP hS hl => lv_isub F.1 F.2.1 hd (k p e R s m args below meth c H locs ls F hP hS hl)
theorem g_imul {x y : Int32} (hd : decode M.2.1 pc = .ok (.imul, 1)) (k : gG E M (pc + 1) lv (.int (x * y) :: st) σ r σ') : gG E M pc lv (.int y :: .int x :: st) σ r σ' :=
  fun p e R s m args below meth c H locs ls F hP hS hl => lv_imul F.1 F.2.1 hd (k p e R s m args below meth c H locs ls F hP hS hl)
theorem g_iand {x y : Int32} (hd : decode M.2.1 pc = .ok (.iand, 1)) (k : gG E M (pc + 1) lv (.int (x &&& y) :: st) σ r σ') : gG E M pc lv (.int y :: .int x :: st) σ r σ' :=
  fun p e R s m args below meth c H locs ls F hP hS hl => lv_iand F.1 F.2.1 hd (k p e R s m args below meth c H locs ls F hP hS hl)
theorem g_ior {x y : Int32} (hd : decode M.2.1 pc = .ok (.ior, 1)) (k : gG E M (pc + 1) lv (.int (x ||| y) :: st) σ r σ') : gG E M pc lv (.int y :: .int x :: st) σ r σ' :=
  fun p e R s m args below meth c H locs ls F hP hS hl => lv_ior F.1 F.2.1 hd (k p e R s m args below meth c H locs ls F hP hS hl)
theorem g_ixor {x y : Int32} (hd : decode M.2.1 pc = .ok (.ixor, 1)) (k : gG E M (pc + 1) lv (.int (x ^^^ y) :: st) σ r σ') : gG E M pc lv (.int y :: .int x :: st) σ r σ' :=
  fun p e R s m args below meth c H locs ls F hP hS hl => lv_ixor F.1 F.2.1 hd (k p e R s m args below meth c H locs ls F hP hS hl)
theorem g_ishl {x y : Int32} (hd : decode M.2.1 pc = .ok (.ishl, 1)) (k : gG E M (pc + 1) lv (.int (x <<< (y &&& 31)) :: st) σ r σ') : gG E M pc lv (.int y :: .int x :: st) σ r σ' :=
  fun p e R s m args below meth c H locs ls F hP hS hl => lv_ishl F.1 F.2.1 hd (k p e R s m args below meth c H locs ls F hP hS hl)
theorem g_ishr {x y : Int32} (hd : decode M.2.1 pc = .ok (.ishr, 1)) (k : gG E M (pc + 1) lv (.int (x >>> (y &&& 31)) :: st) σ r σ') : gG E M pc lv (.int y :: .int x :: st) σ r σ' :=
  fun p e R s m args below meth c H locs ls F hP hS hl => lv_ishr F.1 F.2.1 hd (k p e R s m args below meth c H locs ls F hP hS hl)
theorem g_ladd {x y : Int64} (hd : decode M.2.1 pc = .ok (.ladd, 1)) (k : gG E M (pc + 1) lv (.long (x + y) :: st) σ r σ') : gG E M pc lv (.long y :: .long x :: st) σ r σ' :=
  fun p e R s m args below meth c H locs ls F hP hS hl => lv_ladd F.1 F.2.1 hd (k p e R s m args below meth c H locs ls F hP hS hl)
theorem g_lsub {x y : Int64} (hd : decode M.2.1 pc = .ok (.lsub, 1)) (k : gG E M (pc + 1) lv (.long (x - y) :: st) σ r σ') : gG E M pc lv (.long y :: .long x :: st) σ r σ' :=
  fun p e R s m args below meth c H locs ls F hP hS hl => lv_lsub F.1 F.2.1 hd (k p e R s m args below meth c H locs ls F hP hS hl)
theorem g_lmul {x y : Int64} (hd : decode M.2.1 pc = .ok (.lmul, 1)) (k : gG E M (pc + 1) lv (.long (x * y) :: st) σ r σ') : gG E M pc lv (.long y :: .long x :: st) σ r σ' :=
  fun p e R s m args below meth c H locs ls F hP hS hl => lv_lmul F.1 F.2.1 hd (k p e R s m args below meth c H locs ls F hP hS hl)
theorem g_land {x y : Int64} (hd : decode M.2.1 pc = .ok (.land, 1)) (k : gG E M (pc + 1) lv (.long (x &&& y) :: st) σ r σ') : gG E M pc lv (.long y :: .long x :: st) σ r σ' :=
  fun p e R s m args below meth c H locs ls F hP hS hl => lv_land F.1 F.2.1 hd (k p e R s m args below meth c H locs ls F hP hS hl)
theorem g_lor {x y : Int64} (hd : decode M.2.1 pc = .ok (.lor, 1)) (k : gG E M (pc + 1) lv (.long (x ||| y) :: st) σ r σ') : gG E M pc lv (.long y :: .long x :: st) σ r σ' :=
  fun p e R s m args below meth c H locs ls F hP hS hl => lv_lor F.1 F.2.1 hd (k p e R s m args below meth c H locs ls F hP hS hl)
theorem g_lxor {x y : Int64} (hd : decode M.2.1 pc = .ok (.lxor, 1)) (k : gG E M (pc + 1) lv (.long (x ^^^ y) :: st) σ r σ') : gG E M pc lv (.long y :: .long x :: st) σ r σ' :=
  fun p e R s m args below meth c H locs ls F hP hS hl => lv_lxor F.1 F.2.1 hd (k p e R s m args below meth c H locs ls F hP hS hl)
theorem g_idiv {x y : Int32} (hd : decode M.2.1 pc = .ok (.idiv, 1)) (hn : ¬ y = 0) (k : gG E M (pc + 1) lv (.int (x / y) :: st) σ r σ') : gG E M pc lv (.int y :: .int x :: st) σ r σ' :=
  fun p e R s m args below meth c H locs ls F hP hS hl => lv_idiv F.1 F.2.1 hd hn (k p e R s m args below meth c H locs ls F hP hS hl)
theorem g_irem {x y : Int32} (hd : decode M.2.1 pc = .ok (.irem, 1)) (hn : ¬ y = 0) (k : gG E M (pc + 1) lv (.int (x - x / y * y) :: st) σ r σ') : gG E M pc lv (.int y :: .int x :: st) σ r σ' :=
  fun p e R s m args below meth c H locs ls F hP hS hl => lv_irem F.1 F.2.1 hd hn (k p e R s m args below meth c H locs ls F hP hS hl)
theorem g_ldiv {x y : Int64} (hd : decode M.2.1 pc = .ok (.ldiv, 1)) (hn : ¬ y = 0) (k : gG E M (pc + 1) lv (.long (x / y) :: st) σ r σ') : gG E M pc lv (.long y :: .long x :: st) σ r σ' :=
  fun p e R s m args below meth c H locs ls F hP hS hl => lv_ldiv F.1 F.2.1 hd hn (k p e R s m args below meth c H locs ls F hP hS hl)
theorem g_lrem {x y : Int64} (hd : decode M.2.1 pc = .ok (.lrem, 1)) (hn : ¬ y = 0) (k : gG E M (pc + 1) lv (.long (x - x / y * y) :: st) σ r σ') : gG E M pc lv (.long y :: .long x :: st) σ r σ' :=
  fun p e R s m args below meth c H locs ls F hP hS hl => lv_lrem F.1 F.2.1 hd hn (k p e R s m args below meth c H locs ls F hP hS hl)
theorem g_ineg {x : Int32} (hd : decode M.2.1 pc = .ok (.ineg, 1)) (k : gG E M (pc + 1) lv (.int (-x) :: st) σ r σ') : gG E M pc lv (.int x :: st) σ r σ' :=
  fun p e R s m args below meth c H locs ls F hP hS hl => lv_ineg F.1 F.2.1 hd (k p e R s m args below meth c H locs ls F hP hS hl)
theorem g_lneg {x : Int64} (hd : decode M.2.1 pc = .ok (.lneg, 1)) (k : gG E M (pc + 1) lv (.long (-x) :: st) σ r σ') : gG E M pc lv (.long x :: st) σ r σ' :=
  fun p e R s m args below meth c H locs ls F hP hS hl => lv_lneg F.1 F.2.1 hd (k p e R s m args below meth c H locs ls F hP hS hl)
theorem g_i2l {x : Int32} (hd : decode M.2.1 pc = .ok (.i2l, 1)) (k : gG E M (pc + 1) lv (.long x.toInt64 :: st) σ r σ') : gG E M pc lv (.int x :: st) σ r σ' :=
  fun p e R s m args below meth c H locs ls F hP hS hl => lv_i2l F.1 F.2.1 hd rfl (k p e R s m args below meth c H locs ls F hP hS hl)
theorem g_l2i {x : Int64} (hd : decode M.2.1 pc = .ok (.l2i, 1)) (k : gG E M (pc + 1) lv (.int x.toInt32 :: st) σ r σ') : gG E M pc lv (.long x :: st) σ r σ' :=
  fun p e R s m args below meth c H locs ls F hP hS hl => lv_l2i F.1 F.2.1 hd rfl (k p e R s m args below meth c H locs ls F hP hS hl)
theorem g_i2b {x : Int32} (hd : decode M.2.1 pc = .ok (.i2b, 1)) (k : gG E M (pc + 1) lv (.int x.toInt8.toInt32 :: st) σ r σ') : gG E M pc lv (.int x :: st) σ r σ' :=
  fun p e R s m args below meth c H locs ls F hP hS hl => lv_i2b F.1 F.2.1 hd rfl (k p e R s m args below meth c H locs ls F hP hS hl)
theorem g_i2s {x : Int32} (hd : decode M.2.1 pc = .ok (.i2s, 1)) (k : gG E M (pc + 1) lv (.int x.toInt16.toInt32 :: st) σ r σ') : gG E M pc lv (.int x :: st) σ r σ' :=
  fun p e R s m args below meth c H locs ls F hP hS hl => lv_i2s F.1 F.2.1 hd rfl (k p e R s m args below meth c H locs ls F hP hS hl)
theorem g_lshl {x : Int64} {y : Int32} (hd : decode M.2.1 pc = .ok (.lshl, 1)) (k : gG E M (pc + 1) lv (.long (x <<< (y.toInt64 &&& 63)) :: st) σ r σ') : gG E M pc lv (.int y :: .long x :: st) σ r σ' :=
  fun p e R s m args below meth c H locs ls F hP hS hl => lv_lshl F.1 F.2.1 hd rfl (k p e R s m args below meth c H locs ls F hP hS hl)
theorem g_lshr {x : Int64} {y : Int32} (hd : decode M.2.1 pc = .ok (.lshr, 1)) (k : gG E M (pc + 1) lv (.long (x >>> (y.toInt64 &&& 63)) :: st) σ r σ') : gG E M pc lv (.int y :: .long x :: st) σ r σ' :=
  fun p e R s m args below meth c H locs ls F hP hS hl => lv_lshr F.1 F.2.1 hd rfl (k p e R s m args below meth c H locs ls F hP hS hl)
theorem g_lushr {x : Int64} {y : Int32} (hd : decode M.2.1 pc = .ok (.lushr, 1)) (k : gG E M (pc + 1) lv (.long ((x.toUInt64 >>> (y.toInt64.toUInt64 &&& Int64.toUInt64 63)).toInt64) :: st) σ r σ') : gG E M pc lv (.int y :: .long x :: st) σ r σ' :=
  fun p e R s m args below meth c H locs ls F hP hS hl => lv_lushr F.1 F.2.1 hd rfl (k p e R s m args below meth c H locs ls F hP hS hl)
theorem g_lcmp {x y : Int64} (hd : decode M.2.1 pc = .ok (.lcmp, 1)) (k : gG E M (pc + 1) lv (.int (lg_cmp x y) :: st) σ r σ') : gG E M pc lv (.long y :: .long x :: st) σ r σ' :=
  fun p e R s m args below meth c H locs ls F hP hS hl => W.lcmp F.1 F.2.1 hd (k p e R s m args below meth c H locs ls F hP hS hl)
theorem g_dup {va : Value} (hd : decode M.2.1 pc = .ok (.dup, 1)) (hva : va.category = 1) (k : gG E M (pc + 1) lv (va :: va :: st) σ r σ') : gG E M pc lv (va :: st) σ r σ' :=
  fun p e R s m args below meth c H locs ls F hP hS hl => lv_dup F.1 F.2.1 hd ((gv_cat _ _).trans hva) (k p e R s m args below meth c H locs ls F hP hS hl)
theorem g_pop {va : Value} (hd : decode M.2.1 pc = .ok (.pop, 1)) (hva : va.category = 1) (k : gG E M (pc + 1) lv (st) σ r σ') : gG E M pc lv (va :: st) σ r σ' :=
  fun p e R s m args below meth c H locs ls F hP hS hl => lv_pop F.1 F.2.1 hd ((gv_cat _ _).trans hva) (k p e R s m args below meth c H locs ls F hP hS hl)
theorem g_pop2 {va : Value} (hd : decode M.2.1 pc = .ok (.pop2, 1)) (hva : va.category = 2) (k : gG E M (pc + 1) lv (st) σ r σ') : gG E M pc lv (va :: st) σ r σ' :=
  fun p e R s m args below meth c H locs ls F hP hS hl => lv_pop2_2 F.1 F.2.1 hd ((gv_cat _ _).trans hva) (k p e R s m args below meth c H locs ls F hP hS hl)
theorem g_dup2 {va vb : Value} (hd : decode M.2.1 pc = .ok (.dup2, 1)) (hva : va.category = 1) (hvb : vb.category = 1) (k : gG E M (pc + 1) lv (va :: vb :: va :: vb :: st) σ r σ') : gG E M pc lv (va :: vb :: st) σ r σ' :=
  fun p e R s m args below meth c H locs ls F hP hS hl => lv_dup2_11 F.1 F.2.1 hd ((gv_cat _ _).trans hva) ((gv_cat _ _).trans hvb) (k p e R s m args below meth c H locs ls F hP hS hl)
theorem g_dup2L {va : Value} (hd : decode M.2.1 pc = .ok (.dup2, 1)) (hva : va.category = 2) (k : gG E M (pc + 1) lv (va :: va :: st) σ r σ') : gG E M pc lv (va :: st) σ r σ' :=
  fun p e R s m args below meth c H locs ls F hP hS hl => lv_dup2_2 F.1 F.2.1 hd ((gv_cat _ _).trans hva) (k p e R s m args below meth c H locs ls F hP hS hl)
theorem g_dup_x1 {va vb : Value} (hd : decode M.2.1 pc = .ok (.dup_x1, 1)) (hva : va.category = 1) (hvb : vb.category = 1) (k : gG E M (pc + 1) lv (va :: vb :: va :: st) σ r σ') : gG E M pc lv (va :: vb :: st) σ r σ' :=
  fun p e R s m args below meth c H locs ls F hP hS hl => lv_dup_x1 F.1 F.2.1 hd ((gv_cat _ _).trans hva) ((gv_cat _ _).trans hvb) (k p e R s m args below meth c H locs ls F hP hS hl)
theorem g_iload_n {q : Fin 4} {i : Nat} {x : Int32} (hd : decode M.2.1 pc = .ok (.iload_n q, 1)) (hi : (q : Nat) = i) (j : Nat) (hj : lv[j]? = some (i, .int x)) (k : gG E M (pc + 1) lv (.int x :: st) σ r σ') : gG E M pc lv st σ r σ' :=
  fun p e R s m args below meth c H locs ls F hP hS hl => lv_iload_n F.1 F.2.1 hd hi (lv_at hl j (gl_at hj)) (k p e R s m args below meth c H locs ls F hP hS hl)
theorem g_iload {i : Nat} {x : Int32} (hd : decode M.2.1 pc = .ok (.iload i, 2)) (j : Nat) (hj : lv[j]? = some (i, .int x)) (k : gG E M (pc + 2) lv (.int x :: st) σ r σ') : gG E M pc lv st σ r σ' :=
  fun p e R s m args below meth c H locs ls F hP hS hl => lv_iload F.1 F.2.1 hd (lv_at hl j (gl_at hj)) (k p e R s m args below meth c H locs ls F hP hS hl)
theorem g_istore_n {q : Fin 4} {i : Nat} {x : Int32} {lv' : List (Nat × Value)} (hd : decode M.2.1 pc = .ok (.istore_n q, 1)) (hi : (q : Nat) = i) (hn : i < M.2.2.2.1) (h : (i, (.int x : Value)) :: lv.filter (fun q => !(q.1 == i) && !(q.1 + 1 == i && q.2.category == 2)) = lv') (k : gG E M (pc + 1) lv' st σ r σ') : gG E M pc lv (.int x :: st) σ r σ' :=
  fun p e R s m args below meth c H locs ls F hP hS hl => lv_istore_n (lv' := gl E.2.2.2 lv') F.1 F.2.1 hd hi hl hn (by rw [gl_f1, ← h]; rfl) (fun ls hl => k p e R s m args below meth c H locs ls F hP hS hl)
theorem g_istore {i : Nat} {x : Int32} {lv' : List (Nat × Value)} (hd : decode M.2.1 pc = .ok (.istore i, 2)) (hn : i < M.2.2.2.1) (h : (i, (.int x : Value)) :: lv.filter (fun q => !(q.1 == i) && !(q.1 + 1 == i && q.2.category == 2)) = lv') (k : gG E M (pc + 2) lv' st σ r σ') : gG E M pc lv (.int x :: st) σ r σ' :=
  fun p e R s m args below meth c H locs ls F hP hS hl => lv_istore (lv' := gl E.2.2.2 lv') F.1 F.2.1 hd hl hn (by rw [gl_f1, ← h]; rfl) (fun ls hl => k p e R s m args below meth c H locs ls F hP hS hl)
theorem g_lload_n {q : Fin 4} {i : Nat} {x : Int64} (hd : decode M.2.1 pc = .ok (.lload_n q, 1)) (hi : (q : Nat) = i) (j : Nat) (hj : lv[j]? = some (i, .long x)) (k : gG E M (pc + 1) lv (.long x :: st) σ r σ') : gG E M pc lv st σ r σ' :=
  fun p e R s m args below meth c H locs ls F hP hS hl => lv_lload_n F.1 F.2.1 hd hi (lv_at hl j (gl_at hj)) (k p e R s m args below meth c H locs ls F hP hS hl)
theorem g_lload {i : Nat} {x : Int64} (hd : decode M.2.1 pc = .ok (.lload i, 2)) (j : Nat) (hj : lv[j]? = some (i, .long x)) (k : gG E M (pc + 2) lv (.long x :: st) σ r σ') : gG E M pc lv st σ r σ' :=
  fun p e R s m args below meth c H locs ls F hP hS hl => lv_lload F.1 F.2.1 hd (lv_at hl j (gl_at hj)) (k p e R s m args below meth c H locs ls F hP hS hl)
theorem g_lstore_n {q : Fin 4} {i : Nat} {x : Int64} {lv' : List (Nat × Value)} (hd : decode M.2.1 pc = .ok (.lstore_n q, 1)) (hi : (q : Nat) = i) (hn : i + 1 < M.2.2.2.1) (h : (i, (.long x : Value)) :: lv.filter (fun q => !(q.1 == i) && (!(q.1 == i + 1) && !(q.1 + 1 == i && q.2.category == 2))) = lv') (k : gG E M (pc + 1) lv' st σ r σ') : gG E M pc lv (.long x :: st) σ r σ' :=
  fun p e R s m args below meth c H locs ls F hP hS hl => lv_lstore_n (lv' := gl E.2.2.2 lv') F.1 F.2.1 hd hi hl hn (by rw [gl_f2, ← h]; rfl) (fun ls hl => k p e R s m args below meth c H locs ls F hP hS hl)
theorem g_lstore {i : Nat} {x : Int64} {lv' : List (Nat × Value)} (hd : decode M.2.1 pc = .ok (.lstore i, 2)) (hn : i + 1 < M.2.2.2.1) (h : (i, (.long x : Value)) :: lv.filter (fun q => !(q.1 == i) && (!(q.1 == i + 1) && !(q.1 + 1 == i && q.2.category == 2))) = lv') (k : gG E M (pc + 2) lv' st σ r σ') : gG E M pc lv (.long x :: st) σ r σ' :=
  fun p e R s m args below meth c H locs ls F hP hS hl => lv_lstore (lv' := gl E.2.2.2 lv') F.1 F.2.1 hd hl hn (by rw [gl_f2, ← h]; rfl) (fun ls hl => k p e R s m args below meth c H locs ls F hP hS hl)
theorem g_aload_n {q : Fin 4} {i : Nat} {x : Nat} (hd : decode M.2.1 pc = .ok (.aload_n q, 1)) (hi : (q : Nat) = i) (j : Nat) (hj : lv[j]? = some (i, .ref x)) (k : gG E M (pc + 1) lv (.ref x :: st) σ r σ') : gG E M pc lv st σ r σ' :=
  fun p e R s m args below meth c H locs ls F hP hS hl => lv_aload_n F.1 F.2.1 hd hi (lv_at hl j (gl_at hj)) (k p e R s m args below meth c H locs ls F hP hS hl)
theorem g_aload {i : Nat} {x : Nat} (hd : decode M.2.1 pc = .ok (.aload i, 2)) (j : Nat) (hj : lv[j]? = some (i, .ref x)) (k : gG E M (pc + 2) lv (.ref x :: st) σ r σ') : gG E M pc lv st σ r σ' :=
  fun p e R s m args below meth c H locs ls F hP hS hl => lv_aload F.1 F.2.1 hd (lv_at hl j (gl_at hj)) (k p e R s m args below meth c H locs ls F hP hS hl)
theorem g_astore_n {q : Fin 4} {i : Nat} {x : Nat} {lv' : List (Nat × Value)} (hd : decode M.2.1 pc = .ok (.astore_n q, 1)) (hi : (q : Nat) = i) (hn : i < M.2.2.2.1) (h : (i, (.ref x : Value)) :: lv.filter (fun q => !(q.1 == i) && !(q.1 + 1 == i && q.2.category == 2)) = lv') (k : gG E M (pc + 1) lv' st σ r σ') : gG E M pc lv (.ref x :: st) σ r σ' :=
  fun p e R s m args below meth c H locs ls F hP hS hl => lv_astore_n (lv' := gl E.2.2.2 lv') F.1 F.2.1 hd hi hl hn (by rw [gl_f1, ← h]; rfl) (fun ls hl => k p e R s m args below meth c H locs ls F hP hS hl)
theorem g_astore {i : Nat} {x : Nat} {lv' : List (Nat × Value)} (hd : decode M.2.1 pc = .ok (.astore i, 2)) (hn : i < M.2.2.2.1) (h : (i, (.ref x : Value)) :: lv.filter (fun q => !(q.1 == i) && !(q.1 + 1 == i && q.2.category == 2)) = lv') (k : gG E M (pc + 2) lv' st σ r σ') : gG E M pc lv (.ref x :: st) σ r σ' :=
  fun p e R s m args below meth c H locs ls F hP hS hl => lv_astore (lv' := gl E.2.2.2 lv') F.1 F.2.1 hd hl hn (by rw [gl_f1, ← h]; rfl) (fun ls hl => k p e R s m args below meth c H locs ls F hP hS hl)
theorem g_iinc {i j : Nat} {n : Int} {x v : Int32} {lv' : List (Nat × Value)} (hd : decode M.2.1 pc = .ok (.iinc i n, 3)) (hj : lv[j]? = some (i, .int x)) (hv : x + Int32.ofInt n = v) (hn : i < M.2.2.2.1) (h : (i, (.int v : Value)) :: lv.filter (fun q => !(q.1 == i) && !(q.1 + 1 == i && q.2.category == 2)) = lv') (k : gG E M (pc + 3) lv' st σ r σ') : gG E M pc lv st σ r σ' :=
  fun p e R s m args below meth c H locs ls F hP hS hl => lv_iinc (lv' := gl E.2.2.2 lv') (k := j) F.1 F.2.1 hd hl (gl_at hj) hv hn (by rw [gl_f1, ← h]; rfl) (fun ls hl => k p e R s m args below meth c H locs ls F hP hS hl)
theorem g_goto {off : Int} {t : Nat} (hd : decode M.2.1 pc = .ok (.goto off, 3)) (ht : (pc : Int) + off = (t : Int)) (k : gG E M t lv st σ r σ') : gG E M pc lv st σ r σ' :=
  fun p e R s m args below meth c H locs ls F hP hS hl => lv_goto F.1 F.2.1 hd ht (k p e R s m args below meth c H locs ls F hP hS hl)
theorem g_if_eq {x : Int32} {off : Int} {t : Nat} (hd : decode M.2.1 pc = .ok (.ifCond .eq off, 3)) (ht : (pc : Int) + off = (t : Int)) (kt : x = 0 → gG E M t lv st σ r σ') (kf : ¬ x = 0 → gG E M (pc + 3) lv st σ r σ') : gG E M pc lv (.int x :: st) σ r σ' :=
  fun p e R s m args below meth c H locs ls F hP hS hl => lv_if_eq F.1 F.2.1 hd ht (fun h => kt h p e R s m args below meth c H locs ls F hP hS hl) (fun h => kf h p e R s m args below meth c H locs ls F hP hS hl)
theorem g_icmp_eq {x y : Int32} {off : Int} {t : Nat} (hd : decode M.2.1 pc = .ok (.if_icmp .eq off, 3)) (ht : (pc : Int) + off = (t : Int)) (kt : x = y → gG E M t lv st σ r σ') (kf : ¬ x = y → gG E M (pc + 3) lv st σ r σ') : gG E M pc lv (.int y :: .int x :: st) σ r σ' :=
  fun p e R s m args below meth c H locs ls F hP hS hl => lv_icmp_eq F.1 F.2.1 hd ht (fun h => kt h p e R s m args below meth c H locs ls F hP hS hl) (fun h => kf h p e R s m args below meth c H locs ls F hP hS hl)
theorem g_if_ne {x : Int32} {off : Int} {t : Nat} (hd : decode M.2.1 pc = .ok (.ifCond .ne off, 3)) (ht : (pc : Int) + off = (t : Int)) (kt : ¬ x = 0 → gG E M t lv st σ r σ') (kf : x = 0 → gG E M (pc + 3) lv st σ r σ') : gG E M pc lv (.int x :: st) σ r σ' :=
  fun p e R s m args below meth c H locs ls F hP hS hl => lv_if_ne F.1 F.2.1 hd ht (fun h => kt h p e R s m args below meth c H locs ls F hP hS hl) (fun h => kf h p e R s m args below meth c H locs ls F hP hS hl)
theorem g_icmp_ne {x y : Int32} {off : Int} {t : Nat} (hd : decode M.2.1 pc = .ok (.if_icmp .ne off, 3)) (ht : (pc : Int) + off = (t : Int)) (kt : ¬ x = y → gG E M t lv st σ r σ') (kf : x = y → gG E M (pc + 3) lv st σ r σ') : gG E M pc lv (.int y :: .int x :: st) σ r σ' :=
  fun p e R s m args below meth c H locs ls F hP hS hl => lv_icmp_ne F.1 F.2.1 hd ht (fun h => kt h p e R s m args below meth c H locs ls F hP hS hl) (fun h => kf h p e R s m args below meth c H locs ls F hP hS hl)
theorem g_if_lt {x : Int32} {off : Int} {t : Nat} (hd : decode M.2.1 pc = .ok (.ifCond .lt off, 3)) (ht : (pc : Int) + off = (t : Int)) (kt : x < 0 → gG E M t lv st σ r σ') (kf : ¬ x < 0 → gG E M (pc + 3) lv st σ r σ') : gG E M pc lv (.int x :: st) σ r σ' :=
  fun p e R s m args below meth c H locs ls F hP hS hl => lv_if_lt F.1 F.2.1 hd ht (fun h => kt h p e R s m args below meth c H locs ls F hP hS hl) (fun h => kf h p e R s m args below meth c H locs ls F hP hS hl)
theorem g_icmp_lt {x y : Int32} {off : Int} {t : Nat} (hd : decode M.2.1 pc = .ok (.if_icmp .lt off, 3)) (ht : (pc : Int) + off = (t : Int)) (kt : x < y → gG E M t lv st σ r σ') (kf : ¬ x < y → gG E M (pc + 3) lv st σ r σ') : gG E M pc lv (.int y :: .int x :: st) σ r σ' :=
  fun p e R s m args below meth c H locs ls F hP hS hl => lv_icmp_lt F.1 F.2.1 hd ht (fun h => kt h p e R s m args below meth c H locs ls F hP hS hl) (fun h => kf h p e R s m args below meth c H locs ls F hP hS hl)
theorem g_if_ge {x : Int32} {off : Int} {t : Nat} (hd : decode M.2.1 pc = .ok (.ifCond .ge off, 3)) (ht : (pc : Int) + off = (t : Int)) (kt : 0 ≤ x → gG E M t lv st σ r σ') (kf : ¬ 0 ≤ x → gG E M (pc + 3) lv st σ r σ') : gG E M pc lv (.int x :: st) σ r σ' :=
  fun p e R s m args below meth c H locs ls F hP hS hl => lv_if_ge F.1 F.2.1 hd ht (fun h => kt h p e R s m args below meth c H locs ls F hP hS hl) (fun h => kf h p e R s m args below meth c H locs ls F hP hS hl)
theorem g_icmp_ge {x y : Int32} {off : Int} {t : Nat} (hd : decode M.2.1 pc = .ok (.if_icmp .ge off, 3)) (ht : (pc : Int) + off = (t : Int)) (kt : y ≤ x → gG E M t lv st σ r σ') (kf : ¬ y ≤ x → gG E M (pc + 3) lv st σ r σ') : gG E M pc lv (.int y :: .int x :: st) σ r σ' :=
  fun p e R s m args below meth c H locs ls F hP hS hl => lv_icmp_ge F.1 F.2.1 hd ht (fun h => kt h p e R s m args below meth c H locs ls F hP hS hl) (fun h => kf h p e R s m args below meth c H locs ls F hP hS hl)
theorem g_if_gt {x : Int32} {off : Int} {t : Nat} (hd : decode M.2.1 pc = .ok (.ifCond .gt off, 3)) (ht : (pc : Int) + off = (t : Int)) (kt : 0 < x → gG E M t lv st σ r σ') (kf : ¬ 0 < x → gG E M (pc + 3) lv st σ r σ') : gG E M pc lv (.int x :: st) σ r σ' :=
  fun p e R s m args below meth c H locs ls F hP hS hl => lv_if_gt F.1 F.2.1 hd ht (fun h => kt h p e R s m args below meth c H locs ls F hP hS hl) (fun h => kf h p e R s m args below meth c H locs ls F hP hS hl)
theorem g_icmp_gt {x y : Int32} {off : Int} {t : Nat} (hd : decode M.2.1 pc = .ok (.if_icmp .gt off, 3)) (ht : (pc : Int) + off = (t : Int)) (kt : y < x → gG E M t lv st σ r σ') (kf : ¬ y < x → gG E M (pc + 3) lv st σ r σ') : gG E M pc lv (.int y :: .int x :: st) σ r σ' :=
  fun p e R s m args below meth c H locs ls F hP hS hl => lv_icmp_gt F.1 F.2.1 hd ht (fun h => kt h p e R s m args below meth c H locs ls F hP hS hl) (fun h => kf h p e R s m args below meth c H locs ls F hP hS hl)
theorem g_if_le {x : Int32} {off : Int} {t : Nat} (hd : decode M.2.1 pc = .ok (.ifCond .le off, 3)) (ht : (pc : Int) + off = (t : Int)) (kt : x ≤ 0 → gG E M t lv st σ r σ') (kf : ¬ x ≤ 0 → gG E M (pc + 3) lv st σ r σ') : gG E M pc lv (.int x :: st) σ r σ' :=
  fun p e R s m args below meth c H locs ls F hP hS hl => lv_if_le F.1 F.2.1 hd ht (fun h => kt h p e R s m args below meth c H locs ls F hP hS hl) (fun h => kf h p e R s m args below meth c H locs ls F hP hS hl)
theorem g_icmp_le {x y : Int32} {off : Int} {t : Nat} (hd : decode M.2.1 pc = .ok (.if_icmp .le off, 3)) (ht : (pc : Int) + off = (t : Int)) (kt : x ≤ y → gG E M t lv st σ r σ') (kf : ¬ x ≤ y → gG E M (pc + 3) lv st σ r σ') : gG E M pc lv (.int y :: .int x :: st) σ r σ' :=
  fun p e R s m args below meth c H locs ls F hP hS hl => lv_icmp_le F.1 F.2.1 hd ht (fun h => kt h p e R s m args below meth c H locs ls F hP hS hl) (fun h => kf h p e R s m args below meth c H locs ls F hP hS hl)
end GR

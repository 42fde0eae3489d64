/-! 'new int[n][k]': the outer cell first, then each row's, laid into the outer one by one -/
section MN
variable {p : Program} {l : Launch} {e : Env} {R : Room} {s : State} {m : MethodId} {args : Array Value} {below : List Frame} {meth : Method} {c : Code} {locs : List Loc}
/-- an array of a known class is made -/
theorem mn_one {EE : CtlPost} {d : Bool} {acts : List Action} {U : State} {cA comp : ClassId} {k : Class} {ty : FieldType} {len : Nat} {v : Value} (hk : U.vm.classes[cA]? = some k) (hkind : k.kind = .array comp ty) (h1 : ¬ len > e.platform.arrayLengthLimit) (h2 : ¬ len * componentBytes ty > e.platform.maxHeapBytes) (hf : fits ty v = true) (hd : v.isDefault = true) (h3 : U.heap.size < e.platform.maxCells) (h4 : U.slotsUsed + len ≤ e.platform.maxSlots) {Q : Addr → Pre} (hq : Q U.heap.size d acts (U.pushCell { cls := cA, slots := Array.replicate len v, vm := .none })) : wp (Jvm.newArray cA len v) Q EE e d acts U := by
  have ha : allocActs (Array.replicate len v) U.heap.size acts = acts := by
    unfold allocActs
    rw [if_pos (by rw [Array.all_replicate]; split <;> simp [hd])]
  have hs : ∀ i w, (Array.replicate len v)[i]? = some w → U.fitsSlot cA .none i w = true := by
    intro i w hw
    rw [Array.getElem?_replicate] at hw
    split at hw
    · cases hw; simp [State.fitsSlot, State.slotType?, hk, hkind, hf]
    · cases hw
  simp only [Jvm.newArray, Jvm.arrayFits, wp_bind', W.ask, W.ite, h1, if_false, wp_pure', W.theClass, hk, hkind, h2, W.alloc, W.stop, Option.some.injEq, exists_eq_left', Array.size_replicate, ha]
  rw [if_neg (by omega)]
  exact ⟨h3, h4, hs, hq⟩
/-- where the rows i.. are still to be made -/
def mnI (p : Program) (l : Launch) (e : Env) (R : Room) (s : State) (m : MethodId) (args : Array Value) (below : List Frame) (meth : Method) (c : Code) (locs : List Loc) (H : Heap) (vm : Vm) (kc nc N k0 : Nat) (c5 c0 : ClassId) (i : Nat) (T : State) : Prop :=
  Stand p l e R s m args below meth c T locs (kc + 1 + i) (nc + N + i * k0) ∧ T.vm = vm ∧ T.heap.size = H.size + 1 + i ∧ T.heap[H.size]? = some (arrV c5 N (fun j => if j < i then .ref (H.size + 1 + j) else .null)) ∧ (∀ j, j < i → T.heap[H.size + 1 + j]? = some (arrV c0 k0 (fun _ => .int 0))) ∧ ∀ q, q < H.size → T.heap[q]? = H[q]?
/-- the state with i rows made -/
def mnT (T : State) (N k0 : Nat) (c5 c0 : ClassId) : Nat → State
  | 0 => T.pushCell (arrV c5 N (fun _ => .null))
  | i + 1 => ((mnT T N k0 c5 c0 i).pushCell (arrV c0 k0 (fun _ => .int 0))).setCell T.heap.size (arrV c5 N (fun j => if j < i + 1 then .ref (T.heap.size + 1 + j) else .null))
theorem mn_arr (c5 : ClassId) (N h x : Nat) : (arrV c5 N (fun j => if j < x then Value.ref (h + 1 + j) else .null)).setSlot x (.ref (h + 1 + x)) = arrV c5 N (fun j => if j < x + 1 then .ref (h + 1 + j) else .null) := by
  rw [arrV_store]
  refine congrArg (arrV c5 N) (funext fun j => ?_)
  by_cases ej : j = x
  · subst ej; simp [updV]
  · by_cases h : j < x
    · simp [updV, ej, h, Nat.lt_succ_of_lt h]
    · simp [updV, ej, h, show ¬ j < x + 1 by omega]
theorem mn_all {T : State} {kc nc N k0 : Nat} {c5 c0 : ClassId} (X : Stand p l e R s m args below meth c T locs kc nc) : ∀ i, mnI p l e R s m args below meth c locs T.heap T.vm kc nc N k0 c5 c0 i (mnT T N k0 c5 c0 i)
  | 0 => by
    have hp := X.pushed (arrV c5 N (fun _ => .null))
    rw [arrV_size] at hp
    refine ⟨by simpa [mnT] using hp, rfl, by simp [mnT], by simp [mnT], fun j hj => absurd hj (Nat.not_lt_zero _), fun q hq => State.heap_pushCell_of_lt _ _ hq⟩
  | x + 1 => by
    obtain ⟨X', hvm, hsz', hout, hrows, hold⟩ := mn_all X x
    generalize hT' : mnT T N k0 c5 c0 x = T' at X' hvm hsz' hout hrows hold
    have hlt0 : T.heap.size < T'.heap.size := by omega
    have hout' : (T'.pushCell (arrV c0 k0 (fun _ => .int 0))).heap[T.heap.size]? = some (arrV c5 N (fun j => if j < x then .ref (T.heap.size + 1 + j) else .null)) := by rw [State.heap_pushCell_of_lt (h := hlt0)]; exact hout
    have hXp := X'.pushed (arrV c0 k0 (fun _ => .int 0))
    have hXs := (hXp.stored hout' x (.ref (T.heap.size + 1 + x))).forget (by
      intro y hy
      rw [List.mem_singleton.mp hy]
      exact X.heapGrown)
    rw [arrV_size, mn_arr] at hXs
    show mnI p l e R s m args below meth c locs T.heap T.vm kc nc N k0 c5 c0 (x + 1) (((mnT T N k0 c5 c0 x).pushCell (arrV c0 k0 (fun _ => .int 0))).setCell T.heap.size (arrV c5 N (fun j => if j < x + 1 then .ref (T.heap.size + 1 + j) else .null)))
    rw [hT']
    refine ⟨?_, hvm, ?_, State.heap_setCell_self hout', ?_, ?_⟩
    · have e3 : nc + N + (x + 1) * k0 = nc + N + x * k0 + k0 := by rw [Nat.succ_mul]; omega
      rw [e3]
      exact hXs
    · simp [State.setCell, hsz']; omega
    · intro j hj
      rw [State.heap_setCell_other (show T.heap.size ≠ T.heap.size + 1 + j by omega)]
      rcases Nat.lt_or_ge j x with h | h
      · have hlt1 : T.heap.size + 1 + j < T'.heap.size := by omega
        rw [State.heap_pushCell_of_lt (h := hlt1)]
        exact hrows j h
      · have : j = x := by omega
        subst this
        rw [← hsz']
        exact State.heap_pushCell_size _ _
    · intro q hq
      have hlt2 : q < T'.heap.size := by omega
      rw [State.heap_setCell_other (Nat.ne_of_gt hq), State.heap_pushCell_of_lt (h := hlt2)]
      exact hold q hq
theorem mn_make {EE : CtlPost} {d : Bool} {acts : List Action} {T : State} {g : JFrame} {kc nc : Nat} (X : Stand p l e R s m args below meth c T locs kc nc) {c5 c0 cc0 : ClassId} {k5 kc0 : Class} {n k : Int32} (hk5 : T.vm.classes[c5]? = some k5) (hkind5 : k5.kind = .array c0 (.array .int)) (hk0 : T.vm.classes[c0]? = some kc0) (hkind0 : kc0.kind = .array cc0 .int) (hn : ¬ n < 0) (hk : ¬ k < 0)
    (hl1 : ¬ n.toNatClampNeg > e.platform.arrayLengthLimit) (hh1 : ¬ n.toNatClampNeg * componentBytes (.array .int) > e.platform.maxHeapBytes) (hl2 : ¬ k.toNatClampNeg > e.platform.arrayLengthLimit) (hh2 : ¬ k.toNatClampNeg * componentBytes .int > e.platform.maxHeapBytes)
    (hc : kc + (1 + n.toNatClampNeg) ≤ R.cells) (hs : nc + (n.toNatClampNeg + n.toNatClampNeg * k.toNatClampNeg) ≤ R.slots)
    {Q : Addr → Pre} (hq : ∀ d' acts', Q T.heap.size d' acts' ((mnT T n.toNatClampNeg k.toNatClampNeg c5 c0 n.toNatClampNeg).setTop g)) :
    wp (multianewarray.make c5 [n, k]) Q EE e d acts (T.setTop g) := by
  have hfind : ([k].find? (· < 0)) = none := by simp [hk]
  have hk5' : (T.setTop g).vm.classes[c5]? = some k5 := hk5
  have hh0 : (T.setTop g).heap = T.heap := rfl
  obtain ⟨hr1, hr2⟩ := X.roomAbove hc hs
  generalize hN : n.toNatClampNeg = N at *
  generalize hK : k.toNatClampNeg = k0 at *
  rw [multianewarray.make]
  simp only [wp_bind', W.ite, hn, if_false, wp_pure', W.theClass, hk5', hkind5, Option.some.injEq, exists_eq_left', hN]
  refine mn_one hk5' hkind5 hl1 hh1 rfl rfl (by rw [hh0]; omega) (by show T.slotsUsed + N ≤ _; omega) ?_
  simp only [hfind]
  rw [ite_self, wp_bind', Std.Legacy.Range.forIn_eq_forIn_range']
  have hsz : ([:N] : Std.Legacy.Range).size = N := by simp [Std.Legacy.Range.size]
  rw [hsz]
  show wp (forIn (List.range' 0 N 1) PUnit.unit _) _ EE e d acts _
  refine wp_forIn_inv (fun rest U => ∃ i, i ≤ N ∧ rest = List.range' i (N - i) ∧ U = (mnT T N k0 c5 c0 i).setTop g) _ _ ⟨0, Nat.zero_le _, rfl, ?_⟩ ?_ ?_
  · rw [arrV_new]; rfl
  · rintro x rest U d' acts' Q' ⟨i, hi, hl, rfl⟩ hnext
    have hlt : i < N := by
      rcases Nat.lt_or_ge i N with h | h
      · exact h
      · rw [show N - i = 0 from by omega] at hl; simp at hl
    obtain ⟨rfl, hrest⟩ : x = i ∧ rest = List.range' (i + 1) (N - (i + 1)) := by
      rw [show N - i = (N - (i + 1)) + 1 from by omega, List.range'_succ] at hl
      exact ⟨(List.cons.inj hl).1, (List.cons.inj hl).2⟩
    obtain ⟨X', hvm, hsz', hout, hrows, hold⟩ := mn_all (N := N) (k0 := k0) (c5 := c5) (c0 := c0) X x
    have hnx : mnT T N k0 c5 c0 (x + 1) = ((mnT T N k0 c5 c0 x).pushCell (arrV c0 k0 (fun _ => .int 0))).setCell T.heap.size (arrV c5 N (fun j => if j < x + 1 then .ref (T.heap.size + 1 + j) else .null)) := rfl
    generalize mnT T N k0 c5 c0 x = T' at *
    have hmul : x * k0 + k0 ≤ N * k0 := by
      have := Nat.mul_le_mul_right k0 (show x + 1 ≤ N from hlt)
      rw [Nat.succ_mul] at this; exact this
    obtain ⟨hr3, hr4⟩ := X'.roomAbove (a := 1) (b := k0) (by omega) (by omega)
    have hk0' : (T'.setTop g).vm.classes[c0]? = some kc0 := by show T'.vm.classes[c0]? = _; rw [hvm]; exact hk0
    simp only [wp_bind']
    rw [multianewarray.make]
    simp only [wp_bind', W.ite, hk, if_false, wp_pure', W.theClass, hk0', hkind0, Option.some.injEq, exists_eq_left', hK]
    refine mn_one hk0' hkind0 hl2 hh2 rfl rfl (by show T'.heap.size < _; omega) (by show T'.slotsUsed + k0 ≤ _; omega) ?_
    have e1 : (T'.setTop g).pushCell { cls := c0, slots := Array.replicate k0 (defaultValue .int), vm := .none } = (T'.pushCell (arrV c0 k0 (fun _ => .int 0))).setTop g := by
      rw [State.pushCell_setTop, ← arrV_new]; rfl
    have hlt0 : T.heap.size < T'.heap.size := by omega
    have hout' : (T'.pushCell (arrV c0 k0 (fun _ => .int 0))).heap[T.heap.size]? = some (arrV c5 N (fun j => if j < x then .ref (T.heap.size + 1 + j) else .null)) := by rw [State.heap_pushCell_of_lt (h := hlt0)]; exact hout
    rw [e1]
    simp only [wp_bind', W.writeLoc, wp_pure']
    have hh1' : (T'.setTop g).heap.size = T.heap.size + 1 + x := hsz'
    have hh2' : (T.setTop g).heap.size = T.heap.size := rfl
    rw [hh1', hh2']
    refine ⟨_, hout', by simp [arrV], by rw [arrV_size]; exact hlt, ?_, hnext _ _ _ ⟨x + 1, hlt, hrest, ?_⟩⟩
    · show State.fitsSlot _ c5 .none x _ = true
      simp [State.fitsSlot, State.slotType?, hvm, hk5, hkind5, fits]
    · rw [hnx, mn_arr]
      exact State.setCell_setTop ..
  · rintro U d' acts' ⟨i, hi, hl, rfl⟩
    have hiN : i = N := by
      rcases Nat.lt_or_ge i N with h | h
      · rw [show N - i = (N - (i + 1)) + 1 from by omega, List.range'_succ] at hl; cases hl
      · omega
    subst hiN
    simp only [wp_pure']
    exact hq _ _
end MN

theorem arrV_same {cA : ClassId} {n : Nat} {f g : Nat → Value} (h : ∀ j, j < n → f j = g j) : arrV cA n f = arrV cA n g := by
  unfold arrV
  congr 1
  apply Array.ext
  · simp
  · intro i h1 h2
    simp at h1
    simp [h i h1]
section MW
variable {E : gE} {p : Program} {e : Env} {R : Room} {s : State} {m : MethodId} {args : Array Value} {below : List Frame} {meth : Method} {c : Code} {H : Heap} {locs : List Loc} {Q : State → Prop} {ls : Array Slot} {kc nc pc : Nat} {cc : ByteArray} {own : String} {rest : List Value} {Mm : List va_E}
theorem w_mna {idx : Nat} {n k : Int32} {N' k0 : Nat} {f : Nat → Option Nat} (hx : p.tables.exec = Jvm.exec) (hb : c.code = cc) (hts : ∀ w ∈ gWS, w.before args s = true) (hown : s.vm.findClass own = some m.cls) (hw : Cond.classLink own idx "[[I" ∈ gWS) (hK : nK E s) (hB : nB0 E) (hP : nP E Mm H) (hS : va_S (nA E) s.heap H locs) (hlen : Mm.length + 1 + N' ≤ gNH) (hf : ∀ i, i < N' → f i = some (Mm.length + 1 + i)) (hn : ¬ n < 0) (hk : ¬ k < 0) (hN : n.toNatClampNeg = N') (hK0 : k.toNatClampNeg = k0) (hb1 : N' ≤ 1000 ∧ k0 ≤ 1000) (hc : kc + (1 + N') ≤ R.cells) (hs : nc + (N' + N' * k0) ≤ R.slots) (hd : decode cc pc = .ok (.multianewarray idx 2, 4))
    (kk : ∀ H1, nP E (Mm ++ (.inl (E.2.2.1 5, N', .inr (.inr (.inr (.inr f)))) :: List.replicate N' (.inl (E.2.2.1 0, k0, .inl (fun _ => 0))))) H1 → va_S (nA E) s.heap H1 locs → W p E.1 e R s m args below meth c H1 locs (kc + 1 + N') (nc + N' + N' * k0) Q (F0 m (pc + 4) ls (.ref (E.2.2.2 Mm.length) :: rest))) : W p E.1 e R s m args below meth c H locs kc nc Q (F0 m pc ls (.int k :: .int n :: rest)) := by
  intro T hT X
  obtain ⟨k5, kc0, hk5, hkind5, hk0⟩ := hK.2.2.2.2
  have hf5 : s.vm.findClass "[[I" = some (E.2.2.1 5) := (hK.1.2 5 _ rfl).2
  obtain ⟨-, kc1, hk0', cc0, hkind0⟩ := (hK.1.2 0 _ rfl).1 0 (fun _ => .null)
  have ek : kc1 = kc0 := Option.some.inj (hk0'.symm.trans hk0)
  subst ek
  obtain ⟨c5, hfc5, hcl⟩ := Cond.classLink_spec hown (hts _ hw) e.platform (by rw [X.admits.platform])
  have e5 : c5 = E.2.2.1 5 := Option.some.inj (hfc5.symm.trans hf5)
  subst e5
  obtain ⟨hg1, hwarm, hready⟩ := State.classEntry (e := e) X.warmed hcl
  generalize T.vm.noted m.cls idx (.cls (E.2.2.1 5)) = vm1 at hg1 hwarm hready
  obtain ⟨k5', hk5', he5⟩ := hwarm.alike.2.2 _ _ hk5
  obtain ⟨k0', hk0'', he0⟩ := hwarm.alike.2.2 _ _ hk0
  have X1 := X.noted hwarm
  have hz : T.heap.size = E.2.2.2 Mm.length := by rw [hT, hP.2.1]; exact (hB _ (by omega)).symm
  have hI := mn_all (N := N') (k0 := k0) (c5 := E.2.2.1 5) (c0 := E.2.2.1 0) X1 N'
  have hfin : ∃ t, Steps p.tables e below ((mnT (T.setVm vm1) N' k0 (E.2.2.1 5) (E.2.2.1 0) N').setTop (F0 m (pc + 4) ls (.ref T.heap.size :: rest))) t ∧ Q t := by
    generalize mnT (T.setVm vm1) N' k0 (E.2.2.1 5) (E.2.2.1 0) N' = T' at hI
    have hTv : (T.setVm vm1).heap = T.heap := rfl
    rw [hTv] at hI
    obtain ⟨X', hvm, hsz, hout, hrows, hold⟩ := hI
    rw [hT] at hsz hout hrows hold
    have hz' : H.size = E.2.2.2 Mm.length := by rw [← hT]; exact hz
    have hold' : ∀ q, q < s.heap.size → ¬ nA E q → T'.heap[q]? = s.heap[q]? := fun q h1 h2 => (hold q (Nat.lt_of_lt_of_le h1 hS.1)).trans (hS.2.1 q h1 h2)
    have hP1 : nP E (Mm ++ (.inl (E.2.2.1 5, N', .inr (.inr (.inr (.inr f)))) :: List.replicate N' (.inl (E.2.2.1 0, k0, .inl (fun _ => 0))))) T'.heap := by
      refine ⟨by simp; omega, by rw [hsz, hP.2.1]; simp; omega, ?_⟩
      intro i q hq
      simp only [nws, List.getElem?_mapIdx, Option.map_eq_some_iff] at hq
      obtain ⟨x, hx1, rfl⟩ := hq
      rcases Nat.lt_or_ge i Mm.length with hi | hi
      · rw [List.getElem?_append_left hi] at hx1
        have h0 := hP.2.2 i _ (nws_get hx1)
        exact h0.kept (hold _ (h0.lt))
      · rw [List.getElem?_append_right hi] at hx1
        obtain ⟨j, rfl⟩ : ∃ j, i = Mm.length + j := ⟨i - Mm.length, by omega⟩
        rw [Nat.add_sub_cancel_left] at hx1
        match j with
        | 0 =>
          cases hx1
          show T'.heap[E.2.2.2 (Mm.length + 0)]? = some (vp_cell _ _)
          rw [Nat.add_zero, ← hz', hout, vp_cell_q]
          refine congrArg some (arrV_same fun j hj => ?_)
          rw [if_pos hj]
          show _ = va_rf ((f j).map E.2.2.2)
          rw [hf j hj]
          have e1 := hB (Mm.length + 1 + j) (by omega)
          have e2 := hB Mm.length (by omega)
          show Value.ref (H.size + 1 + j) = Value.ref (E.2.2.2 (Mm.length + 1 + j))
          exact congrArg Value.ref (by rw [e1, hz', e2]; simp only [Nat.add_assoc])
        | j + 1 =>
          rw [List.getElem?_cons_succ, List.getElem?_replicate] at hx1
          split at hx1
          · rename_i hj
            cases hx1
            show T'.heap[E.2.2.2 (Mm.length + (j + 1))]? = some (vp_cell _ _)
            have ea : E.2.2.2 (Mm.length + (j + 1)) = H.size + 1 + j := by rw [hB _ (by omega), hP.2.1]; omega
            rw [ea, hrows j hj]
            rfl
          · cases hx1
    have hS1 : va_S (nA E) s.heap T'.heap locs := ⟨Nat.le_trans hS.1 (by omega), hold', hS.2.2⟩
    obtain ⟨t, a1, b1⟩ := kk T'.heap hP1 hS1 T' rfl X'
    rw [hz]
    exact ⟨t, a1, b1⟩
  obtain ⟨t, a1, b1⟩ := hfin
  refine ⟨t, ?_, b1⟩
  have hpl := Launch.admits_arrayLengthLimit X.admits
  have hph := Launch.admits_maxHeapBytes X.admits
  subst hN; subst hK0
  have hd' : decode c.code pc = .ok (.multianewarray idx 2, 4) := by rw [hb]; exact hd
  jvm_step X.here [hx, hd']
  simp only [multianewarray.sem, wp_bind', W.resolveClassAt_links (State.method?_setTop (F0 m pc ls (.int k :: .int n :: rest)) X.here.top) hg1]
  rw [W.popN, if_neg (by decide)]
  refine ⟨F0 m pc ls (.int k :: .int n :: rest), State.topJava?_setTop' (s := T.setVm vm1) (F0 m pc ls (.int k :: .int n :: rest)) X.here.top, [.int n, .int k], rest, rfl, rfl, ?_⟩
  simp only [List.mapM_cons, List.mapM_nil, wp_bind', wp_pure']
  have eS : ((T.setTop (F0 m pc ls (.int k :: .int n :: rest))).setVm vm1).setTop { F0 m pc ls (.int k :: .int n :: rest) with stack := rest } = (T.setVm vm1).setTop { F0 m pc ls (.int k :: .int n :: rest) with stack := rest } := by
    show ((T.setVm vm1).setTop (F0 m pc ls (.int k :: .int n :: rest))).setTop _ = _
    rw [State.setTop_setTop]
  rw [eS]
  refine mn_make X1 (k5 := k5') (kc0 := k0') hk5' (by rw [he5]; exact hkind5) hk0'' (by rw [he0]; exact hkind0) hn hk (by rw [hpl]; omega) (by rw [hph]; show ¬ _ * 4 > _; omega) (by rw [hpl]; omega) (by rw [hph]; show ¬ _ * 4 > _; omega) hc hs (fun d' acts' => ?_)
  simp only [wp_bind', W.mark, W.pushRef, State.topJava?_setTop' _ hI.1.here.top, Option.some.injEq, exists_eq_left', State.setTop_setTop, State.heap_setTop]
  intro acts
  simp [jvm, hI.1.here.top]
  exact a1
end MW

/-! THE START: what the law's entry gives of the classes, the static tables, the words' String -/
theorem st_D {s : State} {b : Nat} (hts : ∀ w ∈ lw_tbl, w.before #[Value.ref b] s = true) : ∃ D : va_G, ∀ (c : Nat) (q : vw_C), vwCl[c]? = some q → u_Kn s q.1 q.2.1 q.2.2 (D.1 c) (D.2 c) := by
  have hG : ∀ w ∈ gWS, w.before #[Value.ref b] s = true := fun w hw => hts w (gWS_in hw)
  have key : ∀ c : Nat, ∃ z : ClassId × (Nat → Nat), ∀ q : vw_C, vwCl[c]? = some q → u_Kn s q.1 q.2.1 q.2.2 z.1 z.2 := fun c => match c with
    | 0 => by
      obtain ⟨cC, iS, h⟩ := u_known (C := RX0) (T := TX0) (N := 5) (n := 5) hG ux_0 (hts _ (List.mem_of_getElem? (i := 478) (by decide +kernel)))
      exact ⟨(cC, iS), fun q hq => by cases hq; exact h⟩
    | 1 => by
      obtain ⟨cC, iS, h⟩ := u_known (C := RX1) (T := TX1) (N := 10) (n := 10) hG ux_1 (hts _ (List.mem_of_getElem? (i := 282) (by decide +kernel)))
      exact ⟨(cC, iS), fun q hq => by cases hq; exact h⟩
    | 2 => by
      obtain ⟨cC, iS, h⟩ := u_known (C := RX2) (T := TX2) (N := 6) (n := 6) hG ux_2 (hts _ (List.mem_of_getElem? (i := 420) (by decide +kernel)))
      exact ⟨(cC, iS), fun q hq => by cases hq; exact h⟩
    | 3 => by
      obtain ⟨cC, iS, h⟩ := u_known (C := RX3) (T := TX3) (N := 10) (n := 10) hG ux_3 (hts _ (List.mem_of_getElem? (i := 141) (by decide +kernel)))
      exact ⟨(cC, iS), fun q hq => by cases hq; exact h⟩
    | 4 => by
      obtain ⟨cC, iS, h⟩ := u_known (C := RX4) (T := TX4) (N := 7) (n := 7) hG ux_4 (hts _ (List.mem_of_getElem? (i := 326) (by decide +kernel)))
      exact ⟨(cC, iS), fun q hq => by cases hq; exact h⟩
    | 5 => by
      obtain ⟨cC, iS, h⟩ := u_known (C := RX5) (T := TX5) (N := 3) (n := 3) hG ux_5 (hts _ (List.mem_of_getElem? (i := 395) (by decide +kernel)))
      exact ⟨(cC, iS), fun q hq => by cases hq; exact h⟩
    | 6 => by
      obtain ⟨cC, iS, h⟩ := u_known (C := RX6) (T := TX6) (N := 10) (n := 10) hG ux_6 (hts _ (List.mem_of_getElem? (i := 135) (by decide +kernel)))
      exact ⟨(cC, iS), fun q hq => by cases hq; exact h⟩
    | 7 => by
      obtain ⟨cC, iS, h⟩ := u_known (C := RX7) (T := TX7) (N := 4) (n := 4) hG ux_7 (hts _ (List.mem_of_getElem? (i := 504) (by decide +kernel)))
      exact ⟨(cC, iS), fun q hq => by cases hq; exact h⟩
    | 8 => by
      obtain ⟨cC, iS, h⟩ := u_known (C := RX8) (T := TX8) (N := 6) (n := 6) hG ux_8 (hts _ (List.mem_of_getElem? (i := 450) (by decide +kernel)))
      exact ⟨(cC, iS), fun q hq => by cases hq; exact h⟩
    | 9 => by
      obtain ⟨cC, iS, h⟩ := u_known (C := RX9) (T := TX9) (N := 8) (n := 8) hG ux_9 (hts _ (List.mem_of_getElem? (i := 358) (by decide +kernel)))
      exact ⟨(cC, iS), fun q hq => by cases hq; exact h⟩
    | 10 => by
      obtain ⟨cC, iS, h⟩ := u_known (C := RX10) (T := TX10) (N := 12) (n := 12) hG ux_10 (hts _ (List.mem_of_getElem? (i := 127) (by decide +kernel)))
      exact ⟨(cC, iS), fun q hq => by cases hq; exact h⟩
    | 11 => by
      obtain ⟨cC, iS, h⟩ := u_known (C := RX11) (T := TX11) (N := 101) (n := 101) hG ux_11 (hts _ (List.mem_of_getElem? (i := 1222) (by decide +kernel)))
      exact ⟨(cC, iS), fun q hq => by cases hq; exact h⟩
    | n + 12 => ⟨(0, fun _ => 0), fun q hq => by simp [vwCl] at hq⟩
  obtain ⟨f, hf⟩ := Classical.axiomOfChoice key
  exact ⟨(fun c => (f c).1, fun c => (f c).2), fun c q hq => hf c q hq⟩
theorem st_over {A : Array Value} {s : State} (h : (Cond.arrayOver (.array .int)).before A s = true) : ∃ comp c k, s.vm.findClass "[I" = some comp ∧ s.vm.classes[c]? = some k ∧ k.kind = .array comp (.array .int) ∧ s.vm.findClass "[[I" = some c := by
  simp only [Cond.before, Cond.holds, Cond.value, beq_iff_eq] at h
  cases hc : s.vm.findClass (FieldType.array .int).toString with
  | none => simp [hc] at h
  | some comp =>
    simp only [hc, Option.bind_some, Option.bind_eq_some_iff, Option.map_eq_some_iff] at h
    obtain ⟨c, hi, k, hk, hb⟩ := h
    obtain ⟨hlt, hp, -⟩ := Array.findIdx?_eq_some_iff_getElem.mp hi
    have hkk : s.vm.classes[c] = k := (Array.getElem?_eq_some_iff.mp hk).2
    rw [hkk] at hp
    cases hkind : k.kind with
    | array component ty =>
      rw [hkind] at hb hp
      simp at hb hp
      exact ⟨comp, c, k, hc, hk, by rw [hkind, hp, hb.1], hb.2⟩
    | _ => rw [hkind] at hb; simp at hb
theorem st_arr {A : Array Value} {s : State} {ty : FieldType} (h : (Cond.arrayClass ty).before A s = true) (hra : ∀ cA, s.vm.findClass (FieldType.array ty).toString = some cA → va_RA s cA ty) : ∃ cA kA, s.vm.classes[cA]? = some kA ∧ s.vm.findClass (FieldType.array ty).toString = some cA ∧ ArrOfT s cA ty ∧ va_RA s cA ty := by
  obtain ⟨cA, kA, comp, h1, h2, h3⟩ := Cond.arrayClass_spec h
  exact ⟨cA, kA, h2, h1, fun n z => ⟨fun k h => (by cases h), kA, h2, comp, h3⟩, hra _ h1⟩
theorem st_cy {s : State} {b : Nat} (hts : ∀ w ∈ lw_tbl, w.before #[Value.ref b] s = true) : ∃ cy : Nat → ClassId, (∀ (k : Nat) (q : ClassId × FieldType), (gT cy)[k]? = some q → ArrOfT s q.1 q.2 ∧ va_RA s q.1 q.2) ∧ gA5 cy s := by
  obtain ⟨c0, k0, h00, h01, h02, h03⟩ := st_arr (ty := .int) (hts _ (List.mem_of_getElem? (i := 192) (by decide +kernel))) (fun _ h => h)
  obtain ⟨c1, k1, h10, h11, h12, h13⟩ := st_arr (ty := .long) (hts _ (List.mem_of_getElem? (i := 393) (by decide +kernel))) (fun _ h => h)
  obtain ⟨c2, k2, h20, h21, h22, h23⟩ := st_arr (ty := .byte) (hts _ (List.mem_of_getElem? (i := 191) (by decide +kernel))) (fun _ h => h)
  obtain ⟨c3, k3, h30, h31, h32, h33⟩ := st_arr (ty := .boolean) (hts _ (List.mem_of_getElem? (i := 324) (by decide +kernel))) (fun _ h => h)
  obtain ⟨comp, c4, k4, g1, g2, g3, g4, g5⟩ := Cond.arrayOver_spec (n := RX7) (hts _ (List.mem_of_getElem? (i := 503) (by decide +kernel)))
  obtain ⟨comp5, c5, k5, f1, f2, f3, f4⟩ := st_over (hts _ (List.mem_of_getElem? (i := 147) (by decide +kernel)))
  have ec : comp5 = c0 := Option.some.inj (f1.symm.trans h01)
  subst ec
  refine ⟨fun t => match t with | 0 => comp5 | 1 => c1 | 2 => c2 | 3 => c3 | 4 => c4 | _ => c5, fun k q hq => ?_, k5, k0, f2, f3, h00⟩
  match k with
  | 0 => cases hq; exact ⟨h02, h03⟩
  | 1 => cases hq; exact ⟨h12, h13⟩
  | 2 => cases hq; exact ⟨h22, h23⟩
  | 3 => cases hq; exact ⟨h32, h33⟩
  | 4 => cases hq; exact ⟨fun n z => ⟨fun k h => (by cases h), k4, g3, comp, g4⟩, k4, comp, g3, g4, g1, g5⟩
  | 5 => cases hq; exact ⟨fun n z => ⟨fun k h => (by cases h), k5, f2, _, f3⟩, f4⟩
  | n + 6 => simp at hq
theorem st_t0 {s : State} {b : Nat} (hts : ∀ w ∈ lw_tbl, w.before #[Value.ref b] s = true) (hgv : ∀ w ∈ flatC (Jvm.Cond.and given_1 narrow_1), w.before #[Value.ref b] s = true) : ∃ t : Nat, va_Z RX10 "WIDER_KIND" "[I" (.ref t) (fun q => s.heap.size ≤ q) s s.heap ∧ va_T .int t 7 (fun j => .int (gW0 j)) (fun q => s.heap.size ≤ q) s s.heap := by
  have hel : ∀ j, j < 7 → Cond.eq (.elem (.static "LinkageCurves" "WIDER_KIND" "[I") (.int (Int32.ofNat j))) (.int (gW0 j)) ∈ flatC (Jvm.Cond.and given_1 narrow_1) := by decide +kernel
  have hA : ∀ a : Nat, a < s.heap.size → ¬ (fun q => s.heap.size ≤ q) a := fun a h1 h2 => absurd h1 (Nat.not_lt.mpr h2)
  obtain ⟨t, ht, hT⟩ := va_Tof (tm := .static "LinkageCurves" "WIDER_KIND" "[I") (ty := .int) (N := 7) (f := fun j => .int (gW0 j)) (A := fun q => s.heap.size ≤ q) (by decide) (hgv _ (by decide +kernel)) (va_eqt (hgv (Cond.eq (.length (.static "LinkageCurves" "WIDER_KIND" "[I")) (.int 7)) (by decide +kernel))) (fun j hj => va_eqt (hgv _ (hel j hj))) hA
  exact ⟨t, va_Zof (hts _ (List.mem_of_getElem? (i := 1135) (by decide +kernel))) (hts _ (List.mem_of_getElem? (i := 107) (by decide +kernel))) ht hA, hT⟩
theorem st_t1 {s : State} {b : Nat} (hts : ∀ w ∈ lw_tbl, w.before #[Value.ref b] s = true) (hgv : ∀ w ∈ flatC (Jvm.Cond.and given_1 narrow_1), w.before #[Value.ref b] s = true) : ∃ t : Nat, va_Z RX10 "FAMILY_OF_KIND" "[I" (.ref t) (fun q => s.heap.size ≤ q) s s.heap ∧ va_T .int t 7 (fun j => .int (gW1 j)) (fun q => s.heap.size ≤ q) s s.heap := by
  have hel : ∀ j, j < 7 → Cond.eq (.elem (.static "LinkageCurves" "FAMILY_OF_KIND" "[I") (.int (Int32.ofNat j))) (.int (gW1 j)) ∈ flatC (Jvm.Cond.and given_1 narrow_1) := by decide +kernel
  have hA : ∀ a : Nat, a < s.heap.size → ¬ (fun q => s.heap.size ≤ q) a := fun a h1 h2 => absurd h1 (Nat.not_lt.mpr h2)
  obtain ⟨t, ht, hT⟩ := va_Tof (tm := .static "LinkageCurves" "FAMILY_OF_KIND" "[I") (ty := .int) (N := 7) (f := fun j => .int (gW1 j)) (A := fun q => s.heap.size ≤ q) (by decide) (hgv _ (by decide +kernel)) (va_eqt (hgv (Cond.eq (.length (.static "LinkageCurves" "FAMILY_OF_KIND" "[I")) (.int 7)) (by decide +kernel))) (fun j hj => va_eqt (hgv _ (hel j hj))) hA
  exact ⟨t, va_Zof (hts _ (List.mem_of_getElem? (i := 651) (by decide +kernel))) (hts _ (List.mem_of_getElem? (i := 107) (by decide +kernel))) ht hA, hT⟩
theorem st_t2 {s : State} {b : Nat} (hts : ∀ w ∈ lw_tbl, w.before #[Value.ref b] s = true) (hgv : ∀ w ∈ flatC (Jvm.Cond.and given_1 narrow_1), w.before #[Value.ref b] s = true) : ∃ t : Nat, va_Z RX10 "MOST_OF_FAMILY" "[I" (.ref t) (fun q => s.heap.size ≤ q) s s.heap ∧ va_T .int t 4 (fun j => .int (gW2 j)) (fun q => s.heap.size ≤ q) s s.heap := by
  have hel : ∀ j, j < 4 → Cond.eq (.elem (.static "LinkageCurves" "MOST_OF_FAMILY" "[I") (.int (Int32.ofNat j))) (.int (gW2 j)) ∈ flatC (Jvm.Cond.and given_1 narrow_1) := by decide +kernel
  have hA : ∀ a : Nat, a < s.heap.size → ¬ (fun q => s.heap.size ≤ q) a := fun a h1 h2 => absurd h1 (Nat.not_lt.mpr h2)
  obtain ⟨t, ht, hT⟩ := va_Tof (tm := .static "LinkageCurves" "MOST_OF_FAMILY" "[I") (ty := .int) (N := 4) (f := fun j => .int (gW2 j)) (A := fun q => s.heap.size ≤ q) (by decide) (hgv _ (by decide +kernel)) (va_eqt (hgv (Cond.eq (.length (.static "LinkageCurves" "MOST_OF_FAMILY" "[I")) (.int 4)) (by decide +kernel))) (fun j hj => va_eqt (hgv _ (hel j hj))) hA
  exact ⟨t, va_Zof (hts _ (List.mem_of_getElem? (i := 637) (by decide +kernel))) (hts _ (List.mem_of_getElem? (i := 107) (by decide +kernel))) ht hA, hT⟩
theorem st_Z {s : State} {b : Nat} (hts : ∀ w ∈ lw_tbl, w.before #[Value.ref b] s = true) (hgv : ∀ w ∈ flatC (Jvm.Cond.and given_1 narrow_1), w.before #[Value.ref b] s = true) : ∃ (aK aV : Nat) (v : Value), vk_R RX6 31 nWd aK s ∧ va_O "java/lang/String" aK (fun q => s.heap.size ≤ q) s s.heap ∧ va_OF "java/lang/String" "coder" "B" (.int 0) aK (fun q => s.heap.size ≤ q) s s.heap ∧ va_OF "java/lang/String" "value" "[B" (.ref aV) aK (fun q => s.heap.size ≤ q) s s.heap ∧ va_T .byte aV 66 (fun j => .int (nBy.getD j 0)) (fun q => s.heap.size ≤ q) s s.heap ∧ va_Z "java/lang/String" "COMPACT_STRINGS" "Z" (.int 1) (fun q => s.heap.size ≤ q) s s.heap ∧ v.isRef = true ∧ va_Z "jdk/internal/util/Preconditions" "SIOOBE_FORMATTER" "Ljava/util/function/BiFunction;" v (fun q => s.heap.size ≤ q) s s.heap := by
  have hA : ∀ a : Nat, a < s.heap.size → ¬ (fun q => s.heap.size ≤ q) a := fun a h1 h2 => absurd h1 (Nat.not_lt.mpr h2)
  have hel : ∀ j, j < 66 → Cond.eq (.elem (.field (.string "LinkageCurves$Reader" 31) "java/lang/String" "value" "[B") (.int (Int32.ofNat j))) (.int (nBy.getD j 0)) ∈ flatC (Jvm.Cond.and given_1 narrow_1) := by decide +kernel
  obtain ⟨adK, adV, hS, ht⟩ := vk_Sof (N := 1) (tm := fun _ => .string "LinkageCurves$Reader" 31) (len := [66]) (byt := [nBy]) (A := fun q => s.heap.size ≤ q) (fun i hi => by cases Nat.lt_one_iff.mp hi; decide)
    (fun i hi => hgv (Cond.exactly (.string "LinkageCurves$Reader" 31) "java/lang/String") (by decide +kernel)) (fun i hi => hgv (Cond.eq (.field (.string "LinkageCurves$Reader" 31) "java/lang/String" "coder" "B") (.int 0)) (by decide +kernel)) (fun i hi => hgv (Cond.arrayOf (.field (.string "LinkageCurves$Reader" 31) "java/lang/String" "value" "[B") .byte) (by decide +kernel))
    (fun i hi => by cases Nat.lt_one_iff.mp hi; exact hgv (Cond.eq (.length (.field (.string "LinkageCurves$Reader" 31) "java/lang/String" "value" "[B")) (.int 66)) (by decide +kernel))
    (fun i hi j hj => by cases Nat.lt_one_iff.mp hi; exact hgv _ (hel j hj))
    (fun i j hi hj hij => absurd (show i = j by omega) hij) hA
  obtain ⟨q1, q2, q3, q4⟩ := hS.1 0 (by decide)
  obtain ⟨v, hv, hr⟩ := Cond.isRef_spec (hgv (Cond.isRef (.static "jdk/internal/util/Preconditions" "SIOOBE_FORMATTER" "Ljava/util/function/BiFunction;")) (by decide +kernel))
  exact ⟨adK 0, adV 0, v, vk_R.of (hts _ (List.mem_of_getElem? (i := 194) (by decide +kernel))) (ht 0 (by decide)), q1, q2, q3, q4, va_Zof (hts _ (List.mem_of_getElem? (i := 204) (by decide +kernel))) (hts _ (List.mem_of_getElem? (i := 110) (by decide +kernel))) (va_eqt (hgv (Cond.eq (.static "java/lang/String" "COMPACT_STRINGS" "Z") (.int 1)) (by decide +kernel))) hA, hr, va_Zof (hts _ (List.mem_of_getElem? (i := 220) (by decide +kernel))) (hts _ (List.mem_of_getElem? (i := 112) (by decide +kernel))) hv hA⟩

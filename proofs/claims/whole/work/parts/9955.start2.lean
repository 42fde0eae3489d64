theorem dL_0 : decode code 0 = .ok (.new 7, 3) := by decide +kernel
theorem dL_3 : decode code 3 = .ok (.dup, 1) := by decide +kernel
theorem dL_4 : decode code 4 = .ok (.invokespecial 9, 3) := by decide +kernel
theorem dL_7 : decode code 7 = .ok (.astore_n 1, 1) := by decide +kernel
theorem dL_8 : decode code 8 = .ok (.new 10, 3) := by decide +kernel
theorem dL_11 : decode code 11 = .ok (.dup, 1) := by decide +kernel
theorem dL_12 : decode code 12 = .ok (.invokespecial 12, 3) := by decide +kernel
theorem dL_15 : decode code 15 = .ok (.astore_n 2, 1) := by decide +kernel
theorem dL_16 : decode code 16 = .ok (.iconst 0, 1) := by decide +kernel
theorem dL_17 : decode code 17 = .ok (.istore_n 3, 1) := by decide +kernel
theorem okc_law_9 : nOk mLaw mX10_init 9 167 10010 := ⟨List.forall_mem_cons.mpr ⟨(gm 130 (by decide +kernel) rfl), List.forall_mem_cons.mpr ⟨(gm 129 (by decide +kernel) rfl), List.forall_mem_cons.mpr ⟨(gm 107 (by decide +kernel) rfl), fun _ h => absurd h List.not_mem_nil⟩⟩⟩, Or.inl (gm 128 (by decide +kernel) rfl), by decide +kernel, by decide +kernel, by decide +kernel, rfl, rfl⟩
theorem okc_law_12 : nOk mLaw mX11_init 12 64 10254 := ⟨List.forall_mem_cons.mpr ⟨(gm 1225 (by decide +kernel) rfl), List.forall_mem_cons.mpr ⟨(gm 1224 (by decide +kernel) rfl), List.forall_mem_cons.mpr ⟨(gm 122 (by decide +kernel) rfl), fun _ h => absurd h List.not_mem_nil⟩⟩⟩, Or.inl (gm 1223 (by decide +kernel) rfl), by decide +kernel, by decide +kernel, by decide +kernel, rfl, rfl⟩
def stA (n t0 t1 t2 b aK aV aF : Nat) : Nat → Nat := fun h => if h < 233 then n + h else if h = 233 then t0 else if h = 234 then t1 else if h = 235 then t2 else if h = 236 then b else if h = 237 then aK else if h = 238 then aV else aF
theorem st_lt {n t0 t1 t2 b aK aV aF h : Nat} (hh : h < 233) : stA n t0 t1 t2 b aK aV aF h = n + h := if_pos hh
theorem st_10 (cy : Nat → ClassId) : (tX10 cy 0).length = 168 := by
  have h := congrArg List.length (mk_all cy)
  rw [List.length_append, List.length_map, List.length_range, mk_11 cy (fun _ => 0), List.length_map, List.length_range'] at h
  have : gNH = 233 := rfl
  omega
theorem st_nf : ∀ q ∈ gNFs, gNF q ∈ lw_tbl := by decide +kernel
theorem st_nm : ∀ q ∈ gNMs, gNM q ∈ lw_tbl := by decide +kernel

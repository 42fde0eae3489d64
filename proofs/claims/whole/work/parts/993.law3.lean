section HL
variable {Y : hY}
theorem h_sw {i : Nat} {σ : gS} (v : Int32) (h : Inv σ) (hi : i + 6 ≤ Y.2.2.1) (hL : Y.2.2.1 ≤ 3072) (kk : ∀ σ1, Inv σ1 → hG Y 1232 (hLV i) [] σ1) : hG Y 33 (hLV i) [.int v] σ := by
  by_cases h0 : v.toInt < 0 ∨ 33 < v.toInt
  · exact h_tabOut dL_33 h0 rfl (kk σ h)
  · obtain ⟨k, hk⟩ : ∃ k : Nat, v.toInt = (k : Int) := ⟨v.toInt.toNat, by omega⟩
    have hk' : k < 34 := by omega
    clear h0
    match k, hk' with
    | 0, _ => exact h_tabIn dL_33 (by rw [hk]; decide) (by rw [hk]; decide) (off := 151) (by rw [hk]; rfl) rfl (hc_0 h hi hL kk)
    | 1, _ => exact h_tabIn dL_33 (by rw [hk]; decide) (by rw [hk]; decide) (off := 214) (by rw [hk]; rfl) rfl (hc_1 h hi hL kk)
    | 2, _ => exact h_tabIn dL_33 (by rw [hk]; decide) (by rw [hk]; decide) (off := 227) (by rw [hk]; rfl) rfl (hc_2 h hi hL kk)
    | 3, _ => exact h_tabIn dL_33 (by rw [hk]; decide) (by rw [hk]; decide) (off := 240) (by rw [hk]; rfl) rfl (hc_3 h hi hL kk)
    | 4, _ => exact h_tabIn dL_33 (by rw [hk]; decide) (by rw [hk]; decide) (off := 273) (by rw [hk]; rfl) rfl (hc_4 h hi hL kk)
    | 5, _ => exact h_tabIn dL_33 (by rw [hk]; decide) (by rw [hk]; decide) (off := 296) (by rw [hk]; rfl) rfl (hc_5 h hi hL kk)
    | 6, _ => exact h_tabIn dL_33 (by rw [hk]; decide) (by rw [hk]; decide) (off := 329) (by rw [hk]; rfl) rfl (hc_6 h hi hL kk)
    | 7, _ => exact h_tabIn dL_33 (by rw [hk]; decide) (by rw [hk]; decide) (off := 352) (by rw [hk]; rfl) rfl (hc_7 h hi hL kk)
    | 8, _ => exact h_tabIn dL_33 (by rw [hk]; decide) (by rw [hk]; decide) (off := 365) (by rw [hk]; rfl) rfl (hc_8 h hi hL kk)
    | 9, _ => exact h_tabIn dL_33 (by rw [hk]; decide) (by rw [hk]; decide) (off := 388) (by rw [hk]; rfl) rfl (hc_9 h hi hL kk)
    | 10, _ => exact h_tabIn dL_33 (by rw [hk]; decide) (by rw [hk]; decide) (off := 431) (by rw [hk]; rfl) rfl (hc_10 h hi hL kk)
    | 11, _ => exact h_tabIn dL_33 (by rw [hk]; decide) (by rw [hk]; decide) (off := 454) (by rw [hk]; rfl) rfl (hc_11 h hi hL kk)
    | 12, _ => exact h_tabIn dL_33 (by rw [hk]; decide) (by rw [hk]; decide) (off := 488) (by rw [hk]; rfl) rfl (hc_12 h hi hL kk)
    | 13, _ => exact h_tabIn dL_33 (by rw [hk]; decide) (by rw [hk]; decide) (off := 511) (by rw [hk]; rfl) rfl (hc_13 h hi hL kk)
    | 14, _ => exact h_tabIn dL_33 (by rw [hk]; decide) (by rw [hk]; decide) (off := 544) (by rw [hk]; rfl) rfl (hc_14 h hi hL kk)
    | 15, _ => exact h_tabIn dL_33 (by rw [hk]; decide) (by rw [hk]; decide) (off := 567) (by rw [hk]; rfl) rfl (hc_15 h hi hL kk)
    | 16, _ => exact h_tabIn dL_33 (by rw [hk]; decide) (by rw [hk]; decide) (off := 590) (by rw [hk]; rfl) rfl (hc_16 h hi hL kk)
    | 17, _ => exact h_tabIn dL_33 (by rw [hk]; decide) (by rw [hk]; decide) (off := 624) (by rw [hk]; rfl) rfl (hc_17 h hi hL kk)
    | 18, _ => exact h_tabIn dL_33 (by rw [hk]; decide) (by rw [hk]; decide) (off := 647) (by rw [hk]; rfl) rfl (hc_18 h hi hL kk)
    | 19, _ => exact h_tabIn dL_33 (by rw [hk]; decide) (by rw [hk]; decide) (off := 691) (by rw [hk]; rfl) rfl (hc_19 h hi hL kk)
    | 20, _ => exact h_tabIn dL_33 (by rw [hk]; decide) (by rw [hk]; decide) (off := 704) (by rw [hk]; rfl) rfl (hc_20 h hi hL kk)
    | 21, _ => exact h_tabIn dL_33 (by rw [hk]; decide) (by rw [hk]; decide) (off := 757) (by rw [hk]; rfl) rfl (hc_21 h hi hL kk)
    | 22, _ => exact h_tabIn dL_33 (by rw [hk]; decide) (by rw [hk]; decide) (off := 790) (by rw [hk]; rfl) rfl (hc_22 h hi hL kk)
    | 23, _ => exact h_tabIn dL_33 (by rw [hk]; decide) (by rw [hk]; decide) (off := 813) (by rw [hk]; rfl) rfl (hc_23 h hi hL kk)
    | 24, _ => exact h_tabIn dL_33 (by rw [hk]; decide) (by rw [hk]; decide) (off := 846) (by rw [hk]; rfl) rfl (hc_24 h hi hL kk)
    | 25, _ => exact h_tabIn dL_33 (by rw [hk]; decide) (by rw [hk]; decide) (off := 879) (by rw [hk]; rfl) rfl (hc_25 h hi hL kk)
    | 26, _ => exact h_tabIn dL_33 (by rw [hk]; decide) (by rw [hk]; decide) (off := 922) (by rw [hk]; rfl) rfl (hc_26 h hi hL kk)
    | 27, _ => exact h_tabIn dL_33 (by rw [hk]; decide) (by rw [hk]; decide) (off := 945) (by rw [hk]; rfl) rfl (hc_27 h hi hL kk)
    | 28, _ => exact h_tabIn dL_33 (by rw [hk]; decide) (by rw [hk]; decide) (off := 1019) (by rw [hk]; rfl) rfl (hc_28 h hi hL kk)
    | 29, _ => exact h_tabIn dL_33 (by rw [hk]; decide) (by rw [hk]; decide) (off := 1053) (by rw [hk]; rfl) rfl (hc_29 h hi hL kk)
    | 30, _ => exact h_tabIn dL_33 (by rw [hk]; decide) (by rw [hk]; decide) (off := 1116) (by rw [hk]; rfl) rfl (hc_30 h hi hL kk)
    | 31, _ => exact h_tabIn dL_33 (by rw [hk]; decide) (by rw [hk]; decide) (off := 1149) (by rw [hk]; rfl) rfl (hc_31 h hi hL kk)
    | 32, _ => exact h_tabIn dL_33 (by rw [hk]; decide) (by rw [hk]; decide) (off := 1172) (by rw [hk]; rfl) rfl (hc_32 h hi hL kk)
    | 33, _ => exact h_tabIn dL_33 (by rw [hk]; decide) (by rw [hk]; decide) (off := 1185) (by rw [hk]; rfl) rfl (hc_33 h hi hL kk)
    | k + 34, hk' => exact absurd hk' (by omega)
theorem h_more {i L : Nat} (hi : i ≤ 3078) (hL : L ≤ 3072) (h : ¬ (Int32.ofNat L - 6 < nI i)) : i + 6 ≤ L := by
  apply Nat.le_of_not_lt
  intro q
  apply h
  have e1 : (nI i).toInt = (i : Int) := Int32.toInt_ofNat_of_lt (by omega)
  have e2 : (Int32.ofNat L).toInt = (L : Int) := Int32.toInt_ofNat_of_lt (by omega)
  have e3 : (6 : Int32).toInt = 6 := rfl
  rw [Int32.lt_iff_toInt_lt, Int32.toInt_sub, e1, e2, e3, Int.bmod_eq_of_le (by omega) (by omega)]
  omega
theorem h_loop (hL : Y.2.2.1 ≤ 3072) : ∀ (n i : Nat) (σ : gS), Y.2.2.1 ≤ i + n → i ≤ 3078 → Inv σ → hG Y 18 (hLV i) [] σ := by
  intro n
  induction n with
  | zero =>
    intro i σ hn hi h
    refine h_iload_n dL_18 rfl 0 rfl (h_aload_n dL_19 rfl 1 rfl (h_slen dL_20 (h_bipush dL_21 rfl (h_isub dL_23 (h_icmp_gt dL_24 rfl (fun _ => h_iconst dL_1238 rfl (h_end dL_1239)) (fun q => ?_))))))
    have := h_more hi hL q
    omega
  | succ n ih =>
    intro i σ hn hi h
    refine h_iload_n dL_18 rfl 0 rfl (h_aload_n dL_19 rfl 1 rfl (h_slen dL_20 (h_bipush dL_21 rfl (h_isub dL_23 (h_icmp_gt dL_24 rfl (fun _ => h_iconst dL_1238 rfl (h_end dL_1239)) (fun q => ?_))))))
    have hm := h_more hi hL q
    obtain ⟨hv, he⟩ := h_idx (j := 0) (by decide) hm hL
    have ez : nI i + nI 0 = nI i := Int32.add_zero _
    rw [ez] at hv he
    refine h_aload_n dL_27 rfl 1 rfl (h_iload_n dL_28 rfl 0 rfl (h_sld dL_29 hv (h_bipush dL_30 rfl (h_iand dL_32 (h_sw _ h hm hL (fun σ1 h1 => ?_))))))
    have e6 : nI i + Int32.ofInt 6 = nI (i + 6) := by show Int32.ofNat i + Int32.ofNat 6 = Int32.ofNat (i + 6); rw [Int32.ofNat_add]
    exact h_iinc dL_1232 (j := 0) rfl e6 (by decide) rfl (h_goto dL_1235 rfl (ih (i + 6) σ1 (by omega) (by omega) h1))
end HL

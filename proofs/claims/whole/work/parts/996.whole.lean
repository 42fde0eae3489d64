theorem whole_start {p : Program} {e : Env} {s : State} {m : MethodId} {below : List Frame} {meth : Method} {c : Code} (l : Launch) {b L : Nat} {xs : Nat → Int32} (hL : L ≤ 3072) (C0 : lw_At p s m meth c b L xs) : W p l e room_1 s m #[Value.ref b] below meth c s.heap [] 0 0 (lw_Z below #[Value.ref b] s) (entryFrame m ([Value.ref b] : List Value).toArray 4) := by
  obtain ⟨hx, hcode, hret, hml, hown, hts, hX, hbl, hlock, hgv0⟩ := C0
  have hgv := flat_of_before _ hgv0
  have hG : ∀ w ∈ gWS, w.before #[Value.ref b] s = true := fun w hw => hts w (gWS_in hw)
  obtain ⟨D, hD⟩ := st_D hts
  obtain ⟨cy, hcy, hA5⟩ := st_cy hts
  obtain ⟨t0, z0, y0⟩ := st_t0 hts hgv
  obtain ⟨t1, z1, y1⟩ := st_t1 hts hgv
  obtain ⟨t2, z2, y2⟩ := st_t2 hts hgv
  obtain ⟨aK, aV, v, w1, w2, w3, w4, w5, w6, w7, w8⟩ := st_Z hts hgv
  obtain ⟨aF, w, hwc, hwv⟩ : ∃ (aF : Nat) (w : Value), w.category = 1 ∧ ∀ ad : Nat → Nat, ad 239 = aF → gv ad w = v := by
    cases v with
    | ref a => exact ⟨a, .ref 239, rfl, fun ad h => by show Value.ref (ad 239) = _; rw [h]⟩
    | null => exact ⟨0, .null, rfl, fun ad h => rfl⟩
    | _ => simp [Value.isRef] at w7
  let ad : Nat → Nat := stA s.heap.size t0 t1 t2 b aK aV aF
  let E : gE := (l, D, cy, ad)
  have hB0 : nB0 E := fun h hh => (st_lt hh).trans (by show _ = stA s.heap.size t0 t1 t2 b aK aV aF 0 + h; rw [st_lt (by decide)]; rfl)
  have had0 : E.2.2.2 0 = s.heap.size := by show stA s.heap.size t0 t1 t2 b aK aV aF 0 = _; rw [st_lt (by decide)]; rfl
  have hnA : nA E = fun q => s.heap.size ≤ q := by funext q; show (E.2.2.2 0 ≤ q) = _; rw [had0]
  have hK : nK E s := ⟨⟨hD, hcy⟩, fun q hq => va_Nw.of rfl (hts _ (st_nf q hq)), fun q hq => va_Nw.of rfl (hts _ (st_nm q hq)), va_AO.of (hts _ (List.mem_of_getElem? (i := 503) (by decide +kernel))), hA5⟩
  have hZ : nZ E s s.heap := by
    unfold nZ
    rw [hnA]
    exact ⟨w1, w2, w3, w4, w5, w6, w, hwc, by rw [hwv E.2.2.2 rfl]; exact w8⟩
  have hP0 : nP E [] s.heap := ⟨Nat.zero_le _, by rw [had0]; rfl, fun k q hq => by simp [nws] at hq⟩
  have hS0 : va_S (nA E) s.heap s.heap [] := va_S.rf
  have hl0 : lv_has ((lg_sl [Value.ref b] ++ List.replicate (4 - (lg_sl [Value.ref b]).length) Slot.unset).toArray) 4 [(0, Value.ref b)] := lv_entry [Value.ref b] (n := 4) (Nat.le_of_ble_eq_true rfl)
  rw [lg_entry_eq]
  generalize (lg_sl [Value.ref b] ++ List.replicate (4 - (lg_sl [Value.ref b]).length) Slot.unset).toArray = ls0 at hl0
  refine w_new (E := E) (own := R_law) (cc := code) (Mm := []) (ci := 10) (fs := dX10) hx hcode hG ux_10 tyX10_ok hown ⟨(gm 126 (by decide +kernel) rfl), (gm 127 (by decide +kernel) rfl), (gm 107 (by decide +kernel) rfl)⟩ hK hB0 hP0 hS0 (by decide) rfl dX10_ok (fun _ => rfl) (Nat.le_of_ble_eq_true rfl) (Nat.le_of_ble_eq_true rfl) dL_0 (fun H1 hP1 hS1 => ?_)
  refine lv_dup hx hcode dL_3 rfl ?_
  refine w_init (E := E) (M := mLaw) (h := 0) (kX10 (Pm := []) (b := 0) rfl (by decide)) hx hcode hml hown hG ⟨Nat.le_of_ble_eq_true rfl, Nat.le_of_ble_eq_true rfl⟩ hK hB0 hZ hP1 hS1 okc_law_9 hl0.1 dL_4 (Nat.le_of_ble_eq_true rfl) ⟨Nat.le_of_ble_eq_true rfl, Nat.le_of_ble_eq_true rfl⟩ (fun H2 locs2 hP2 hS2 => ?_)
  refine lv_astore_n hx hcode dL_7 rfl hl0 (by decide) rfl (fun ls1 hl1 => ?_)
  have hlen := st_10 cy
  refine w_new (E := E) (own := R_law) (cc := code) (Mm := tX10 cy 0) (ci := 11) (fs := dX11) hx hcode hG ux_11 tyX11_ok hown ⟨(gm 1221 (by decide +kernel) rfl), (gm 1222 (by decide +kernel) rfl), (gm 122 (by decide +kernel) rfl)⟩ hK hB0 hP2 hS2 (by rw [hlen]; decide) rfl dX11_ok (fun _ => rfl) (Nat.le_of_ble_eq_true rfl) (Nat.le_of_ble_eq_true rfl) dL_8 (fun H3 hP3 hS3 => ?_)
  rw [hlen]
  refine lv_dup hx hcode dL_11 rfl ?_
  refine w_init (E := E) (M := mLaw) (h := 168) (kX11 (Pm := tX10 cy 0) (b := 168) hlen (by decide)) hx hcode hml hown hG ⟨Nat.le_of_ble_eq_true rfl, Nat.le_of_ble_eq_true rfl⟩ hK hB0 hZ hP3 hS3 okc_law_12 hl1.1 dL_12 (Nat.le_of_ble_eq_true rfl) ⟨Nat.le_of_ble_eq_true rfl, Nat.le_of_ble_eq_true rfl⟩ (fun H4 locs4 hP4 hS4 => ?_)
  refine lv_astore_n hx hcode dL_15 rfl hl1 (by decide) rfl (fun ls2 hl2 => ?_)
  refine lv_iconst hx hcode dL_16 (v := 0) rfl (lv_istore_n hx hcode dL_17 rfl hl2 (by decide) rfl (fun ls3 hl3 => ?_))
  have hgA : ∀ q, gA E.2.2.2 q → s.heap.size ≤ q := by
    rintro q ⟨h, hh, rfl⟩
    rw [hB0 h hh, had0]
    exact Nat.le_add_right _ _
  have hinj : gInj E.2.2.2 := by
    intro h k hh hk e
    rw [hB0 h hh, hB0 k hk] at e
    omega
  have hSt : gSt E.2.2.2 s s.heap := ⟨⟨z0.narrow hgA, y0.narrow hgA⟩, ⟨z1.narrow hgA, y1.narrow hgA⟩, ⟨z2.narrow hgA, y2.narrow hgA⟩⟩
  let Y : hY := (E, b, L, xs, 0 + 1 + 167 + 1 + 64, 0 + 12 + 10010 + 101 + 10254)
  have hF : hF Y p s m meth c := ⟨hx, hcode, hret, hml, hown, hG, hlock, hX, hbl, ⟨hK.1, hK.2.1, hK.2.2.1, hinj, hA5⟩, hSt, fun h hh => by show s.heap.size ≤ E.2.2.2 h; rw [hB0 h hh, had0]; exact Nat.le_add_right _ _, rfl, Nat.le_of_ble_eq_true rfl, Nat.le_of_ble_eq_true rfl⟩
  have hPg : va_P Y.1.2.1 vwCl (gws Y.1.2.2.1 Y.1.2.2.2 s0) H4 := by
    rw [← nws_gws cy ad s0 (mk_all cy)]
    exact hP4.2.2
  have hSg : va_S (fun q => s.heap.size ≤ q) s.heap H4 locs4 := by rw [← hnA]; exact hS4
  exact h_loop (Y := Y) hL L 0 s0 (Nat.le_of_eq (Nat.zero_add _).symm) (by decide) s0_inv p e s m below meth c H4 locs4 ls3 hF hPg hSg (lv_sub hl3 [0, 3, 2, 1] rfl)

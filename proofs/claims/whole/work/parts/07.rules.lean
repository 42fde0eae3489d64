theorem as_self (vm : Vm) (c : ClassId) : vm.assignable c c = true := by
  show Vm.assignableAux vm (255 + 1) c c = true
  rw [Vm.assignableAux, beq_self_eq_true, Bool.true_or]
theorem gm {w : Cond} (i : Nat) (h : lw_tbl[i]? = some w) (hg : goodWord w = true) : w ∈ gWS := List.mem_filter.mpr ⟨List.mem_of_getElem? h, hg⟩
section GN
variable {E : gE} {M : gM} {pc : Nat} {lv : List (Nat × Value)} {st : List Value} {σ σ' : gS} {r : Option Value}
theorem g_gets0 {idx : Nat} (hd : decode M.2.1 pc = .ok (.getstatic idx, 3)) (hw : (M.2.2.1, idx, RX10, "WIDER_KIND", "[I", "LinkageCurves") ∈ gNFs) (kk : gG E M (pc + 3) lv (.ref 233 :: st) σ r σ') : gG E M pc lv st σ r σ' :=
  fun p e R s m args below meth c H locs ls F hP hS hl => va_getsN F.1 F.2.1 F.2.2.2.2.2.2.2.2.2.2.1.1 hS F.2.2.2.2.1 (va_Nw.use rfl (F.2.2.2.2.2.2.2.2.2.1.2.1 _ hw)) (fun _ q => q) hd (kk p e R s m args below meth c H locs ls F hP hS hl)
theorem g_tld0 {i : Int32} (hd : decode M.2.1 pc = .ok (.iaload, 1)) (hin : vp_in i 7) (kk : gG E M (pc + 1) lv (.int (gW0 i.toNatClampNeg) :: st) σ r σ') : gG E M pc lv (.int i :: .ref 233 :: st) σ r σ' :=
  fun p e R s m args below meth c H locs ls F hP hS hl => va_ti F.1 F.2.1 F.2.2.2.2.2.2.2.2.2.2.1.2 hS hin (v := .int (gW0 i.toNatClampNeg)) rfl hd (kk p e R s m args below meth c H locs ls F hP hS hl)
theorem g_gets1 {idx : Nat} (hd : decode M.2.1 pc = .ok (.getstatic idx, 3)) (hw : (M.2.2.1, idx, RX10, "FAMILY_OF_KIND", "[I", "LinkageCurves") ∈ gNFs) (kk : gG E M (pc + 3) lv (.ref 234 :: st) σ r σ') : gG E M pc lv st σ r σ' :=
  fun p e R s m args below meth c H locs ls F hP hS hl => va_getsN F.1 F.2.1 F.2.2.2.2.2.2.2.2.2.2.2.1.1 hS F.2.2.2.2.1 (va_Nw.use rfl (F.2.2.2.2.2.2.2.2.2.1.2.1 _ hw)) (fun _ q => q) hd (kk p e R s m args below meth c H locs ls F hP hS hl)
theorem g_tld1 {i : Int32} (hd : decode M.2.1 pc = .ok (.iaload, 1)) (hin : vp_in i 7) (kk : gG E M (pc + 1) lv (.int (gW1 i.toNatClampNeg) :: st) σ r σ') : gG E M pc lv (.int i :: .ref 234 :: st) σ r σ' :=
  fun p e R s m args below meth c H locs ls F hP hS hl => va_ti F.1 F.2.1 F.2.2.2.2.2.2.2.2.2.2.2.1.2 hS hin (v := .int (gW1 i.toNatClampNeg)) rfl hd (kk p e R s m args below meth c H locs ls F hP hS hl)
theorem g_gets2 {idx : Nat} (hd : decode M.2.1 pc = .ok (.getstatic idx, 3)) (hw : (M.2.2.1, idx, RX10, "MOST_OF_FAMILY", "[I", "LinkageCurves") ∈ gNFs) (kk : gG E M (pc + 3) lv (.ref 235 :: st) σ r σ') : gG E M pc lv st σ r σ' :=
  fun p e R s m args below meth c H locs ls F hP hS hl => va_getsN F.1 F.2.1 F.2.2.2.2.2.2.2.2.2.2.2.2.1 hS F.2.2.2.2.1 (va_Nw.use rfl (F.2.2.2.2.2.2.2.2.2.1.2.1 _ hw)) (fun _ q => q) hd (kk p e R s m args below meth c H locs ls F hP hS hl)
theorem g_tld2 {i : Int32} (hd : decode M.2.1 pc = .ok (.iaload, 1)) (hin : vp_in i 4) (kk : gG E M (pc + 1) lv (.int (gW2 i.toNatClampNeg) :: st) σ r σ') : gG E M pc lv (.int i :: .ref 235 :: st) σ r σ' :=
  fun p e R s m args below meth c H locs ls F hP hS hl => va_ti F.1 F.2.1 F.2.2.2.2.2.2.2.2.2.2.2.2.2 hS hin (v := .int (gW2 i.toNatClampNeg)) rfl hd (kk p e R s m args below meth c H locs ls F hP hS hl)
theorem g_callVr {N : gM} {idx h ci : Nat} {ss : List Nat} {T : u_T} {nf : Nat} {as : List Value} {v : Value} {σ1 : gS} (hC : gC E N (.ref h :: as) σ (some v) σ1) (hd : decode M.2.1 pc = .ok (.invokevirtual idx, 3)) (hi : gI h = .inl (ci, ss)) (hc : vwCl[ci]? = some (N.1.cls, T, nf)) (ok : gOkV M N idx as.length) (hw : (st.map fun v => v.category).sum ≤ 8) (kk : gG E M (pc + 3) lv (v :: st) σ1 r σ') : gG E M pc lv (as.reverse ++ .ref h :: st) σ r σ' := g_callV hC hd hi hc ok hw kk
theorem g_callSr {N : gM} {idx : Nat} {as : List Value} {v : Value} {σ1 : gS} (hC : gC E N as σ (some v) σ1) (hd : decode M.2.1 pc = .ok (.invokestatic idx, 3)) (ok : gOkS M N idx as.length) (hw : (st.map fun v => v.category).sum ≤ 8) (kk : gG E M (pc + 3) lv (v :: st) σ1 r σ') : gG E M pc lv (as.reverse ++ st) σ r σ' := g_callS hC hd ok hw kk
theorem g_callNr {N : gM} {idx : Nat} {host : String} {as : List Value} {v : Value} {σ1 : gS} (hC : gC E N as σ (some v) σ1) (hd : decode M.2.1 pc = .ok (.invokestatic idx, 3)) (ok : gOkN M N idx as.length host) (hw : (st.map fun v => v.category).sum ≤ 8) (kk : gG E M (pc + 3) lv (v :: st) σ1 r σ') : gG E M pc lv (as.reverse ++ st) σ r σ' := g_callN hC hd ok hw kk
theorem g_callVv {N : gM} {idx h ci : Nat} {ss : List Nat} {T : u_T} {nf : Nat} {as : List Value} {σ1 : gS} (hC : gC E N (.ref h :: as) σ none σ1) (hd : decode M.2.1 pc = .ok (.invokevirtual idx, 3)) (hi : gI h = .inl (ci, ss)) (hc : vwCl[ci]? = some (N.1.cls, T, nf)) (ok : gOkV M N idx as.length) (hw : (st.map fun v => v.category).sum ≤ 8) (kk : gG E M (pc + 3) lv (st) σ1 r σ') : gG E M pc lv (as.reverse ++ .ref h :: st) σ r σ' := g_callV hC hd hi hc ok hw kk
theorem g_callSv {N : gM} {idx : Nat} {as : List Value} {σ1 : gS} (hC : gC E N as σ none σ1) (hd : decode M.2.1 pc = .ok (.invokestatic idx, 3)) (ok : gOkS M N idx as.length) (hw : (st.map fun v => v.category).sum ≤ 8) (kk : gG E M (pc + 3) lv (st) σ1 r σ') : gG E M pc lv (as.reverse ++ st) σ r σ' := g_callS hC hd ok hw kk
theorem g_callNv {N : gM} {idx : Nat} {host : String} {as : List Value} {σ1 : gS} (hC : gC E N as σ none σ1) (hd : decode M.2.1 pc = .ok (.invokestatic idx, 3)) (ok : gOkN M N idx as.length host) (hw : (st.map fun v => v.category).sum ≤ 8) (kk : gG E M (pc + 3) lv (st) σ1 r σ') : gG E M pc lv (as.reverse ++ st) σ r σ' := g_callN hC hd ok hw kk
theorem g_aastG {h n v nv : Nat} {cv : Option (Nat × Nat)} {i : Int32} (hd : decode M.2.1 pc = .ok (.aastore, 1)) (hi : gI h = .inr (5, n, none)) (hv : gI v = .inr (0, nv, cv)) (hnv : 0 < nv) (hin : vp_in i n) (kk : gG E M (pc + 1) lv st (gsR σ h i.toNatClampNeg v) r σ') : gG E M pc lv (.ref v :: .int i :: .ref h :: st) σ r σ' := by
  intro p e R s m args below meth c H locs ls F hP hS hl
  have hh := gI_ltA hi (vp_in_pos hin)
  have he : (gws E.2.2.1 E.2.2.2 σ)[h]? = some (E.2.2.2 h, .inl (E.2.2.1 5, n, .inr (.inr (.inr (.inr (fun i => some (E.2.2.2 (σ.2.2 h i)))))))) := by rw [gws_get hh, glay_a hi]; rfl
  have heV : (gws E.2.2.1 E.2.2.2 σ)[v]? = some (E.2.2.2 v, .inl (E.2.2.1 0, nv, .inl (σ.1 v))) := by rw [gws_get (gI_ltA hv hnv), glay_a hv]; rfl
  have hlt : i.toNatClampNeg < n := Nat.not_le.mp fun q => hin (Or.inr q)
  have h0 : ¬ i < 0 := fun q => hin (Or.inl q)
  have hset : (gws E.2.2.1 E.2.2.2 σ).set h (E.2.2.2 h, .inl (E.2.2.1 5, n, .inr (.inr (.inr (.inr (va_up (fun i => some (E.2.2.2 (σ.2.2 h i))) i.toNatClampNeg (some (E.2.2.2 v)))))))) = gws E.2.2.1 E.2.2.2 (gsR σ h i.toNatClampNeg v) := gws_set hh (by
    rw [glay_a hi]
    have q : (fun j => some (E.2.2.2 (gel (gsR σ h i.toNatClampNeg v) h none j))) = va_up (fun i => some (E.2.2.2 (σ.2.2 h i))) i.toNatClampNeg (some (E.2.2.2 v)) := by
      funext j
      by_cases hj : j = i.toNatClampNeg
      · subst hj; simp [gel, gsR, gu, va_up]
      · simp [gel, gsR, gu, va_up, hj]
    simp [gar, q]) (fun a ha => glay_R a ha)
  obtain ⟨k, kc, k1, k2, k3⟩ := F.2.2.2.2.2.2.2.2.2.1.2.2.2.2
  refine W.aast F.1 F.2.1 (hP h _ he) (fun q h => by cases h) (fun h => by cases h) k1 k2 rfl k3 ⟨h0, by show _ < (arrV _ _ _).slots.size; rw [arrV_size]; exact hlt⟩ (hP v _ heV) (fun q h => by cases h) k3 (as_self s.vm (E.2.2.1 0)) rfl rfl hd fun H1 e1 z oq => ?_
  have hD := gws_D (cy := E.2.2.1) (σ := σ) F.2.2.2.2.2.2.2.2.2.1.2.2.2.1
  have hat : va_at E.2.1 vwCl (E.2.2.2 h, .inl (E.2.2.1 5, n, .inr (.inr (.inr (.inr (va_up (fun i => some (E.2.2.2 (σ.2.2 h i))) i.toNatClampNeg (some (E.2.2.2 v)))))))) H1 := by
    show H1[E.2.2.2 h]? = some (vp_cell _ _)
    rw [e1]
    rw [vp_cell_q, vp_cell_q, arrV_store]
    congr 2
    funext q
    by_cases hq : q = i.toNatClampNeg
    · subst hq
      simp [updV, va_up, va_rf]
    · simp [updV, va_up, hq]
  have hP1 := hP.set hD he hat oq
  rw [hset] at hP1
  exact kk p e R s m args below meth c H1 _ ls F hP1 (hS.put z oq (hD.2 h _ he)) hl
theorem g_aast {v : Nat} {i : Int32} (hd : decode M.2.1 pc = .ok (.aastore, 1)) (hv : gI v = .inr (0, 48, none)) (hin : vp_in i 60) (kk : gG E M (pc + 1) lv st (gsR σ 60 i.toNatClampNeg v) r σ') : gG E M pc lv (.ref v :: .int i :: .ref 60 :: st) σ r σ' := g_aastG hd gi_60 hv (by decide) hin kk
/-- System.arraycopy between two rows of longs -/
def gcp (σ : gS) (a sp b dp n : Nat) : gS := (σ.1, fun h => if h = b then va_cpy (σ.2.1 a) (σ.2.1 b) sp dp n else σ.2.1 h, σ.2.2)
theorem g_acopy {a b idx : Nat} {sp dp n : Int32} (hd : decode M.2.1 pc = .ok (.invokestatic idx, 3)) (hw : gIn [.methodLink M.2.2.1 idx arraycopyName, .native arraycopyName, .static arraycopyName, .initialized "java/lang/System"]) {na nb : Nat} (ha : gI a = .inr (1, na, none)) (hb : gI b = .inr (1, nb, none)) (h0 : 0 < na ∧ 0 < nb) (h : ¬ sp < 0 ∧ ¬ dp < 0 ∧ ¬ n < 0 ∧ sp.toNatClampNeg + n.toNatClampNeg ≤ na ∧ dp.toNatClampNeg + n.toNatClampNeg ≤ nb) (hfr : 1 ≤ M.2.2.2.2.2.1) (hst : (st.map fun v => v.category).sum ≤ 8) (hlo : 8 + (nativeFrameWords "java/lang/System" "arraycopy" 5 + 11) ≤ M.2.2.2.2.2.2)
    (kk : gG E M (pc + 3) lv st (gcp σ a sp.toNatClampNeg b dp.toNatClampNeg n.toNatClampNeg) r σ') : gG E M pc lv (.int n :: .int dp :: .ref b :: .int sp :: .ref a :: st) σ r σ' := by
  intro p e R s m args below meth c H locs ls F hP hS hl
  obtain ⟨h1, h2, h3, h4, h5⟩ := h
  have hha := gI_ltA ha h0.1
  have hhb := gI_ltA hb h0.2
  have ea : (gws E.2.2.1 E.2.2.2 σ)[a]? = some (E.2.2.2 a, .inl (E.2.2.1 1, na, .inr (.inl (σ.2.1 a)))) := by rw [gws_get hha, glay_a ha]; rfl
  have eb : (gws E.2.2.1 E.2.2.2 σ)[b]? = some (E.2.2.2 b, .inl (E.2.2.1 1, nb, .inr (.inl (σ.2.1 b)))) := by rw [gws_get hhb, glay_a hb]; rfl
  have hset : (gws E.2.2.1 E.2.2.2 σ).set b (E.2.2.2 b, .inl (E.2.2.1 1, nb, .inr (.inl (va_cpy (σ.2.1 a) (σ.2.1 b) sp.toNatClampNeg dp.toNatClampNeg n.toNatClampNeg)))) = gws E.2.2.1 E.2.2.2 (gcp σ a sp.toNatClampNeg b dp.toNatClampNeg n.toNatClampNeg) := gws_set hhb (by
    rw [glay_a hb]
    simp [gar, gcp]) (fun x hx => glay_ne (σ := σ) (σ' := gcp σ a sp.toNatClampNeg b dp.toNatClampNeg n.toNatClampNeg) (h := b) (fun _ _ => rfl) (fun y hy => by simp [gcp, hy]) (fun _ _ => rfl) x hx)
  have hts := F.2.2.2.2.2.1
  have hw' : ((st.map (gv E.2.2.2)).map fun v => v.category).sum ≤ 8 := by
    have : ((st.map (gv E.2.2.2)).map fun v => v.category) = st.map fun v => v.category := by simp [Function.comp_def, gv_cat]
    rw [this]; exact hst
  exact va_copyl F.1 F.2.1 (F.2.2.2.1.trans hl.1.symm) F.2.2.2.2.1 (hts _ (hw _ (by simp))) (hts _ (hw _ (by simp))) (hts _ (hw _ (by simp))) (hts _ (hw _ (by simp))) F.2.2.2.2.2.2.2.2.2.1.1 hP (gws_D F.2.2.2.2.2.2.2.2.2.1.2.2.2.1) hS a b 1 1 (ty := .long) ea eb rfl rfl rfl h1 h2 h3 h4 h5 (fun i _ => rfl) (Nat.le_trans hfr F.2.2.2.2.2.2.2.1) (Nat.le_trans (Nat.add_le_add_right hw' _) (Nat.le_trans hlo F.2.2.2.2.2.2.2.2.1)) hd (fun H1 locs1 hP1 _ hS1 => kk p e R s m args below meth c H1 locs1 ls F (by rw [← hset]; exact hP1) hS1 hl)
end GN
def gLd (t : Nat) : Prop := 30 ≤ t ∧ t < 54
theorem gi_ldv {t : Nat} (h : gLd t) : gI t = .inr (0, 2, none) := by
  obtain ⟨h1, h2⟩ := h
  have := gi_ld (i := t - 30) (by omega)
  rwa [show 30 + 1 * (t - 30) = t by omega] at this
theorem gC_ofF {E : gE} {M : gM} {as : List Value} {σ σ' : gS} {r : Option Value} (hy : plainFor M.1 = true) (hcl : M.1.cls = M.2.2.1) (hn : (lg_sl as).length ≤ M.2.2.2.1) (k : gG E M 0 (lv_args 0 as) [] σ r σ') : gC E M as σ r σ' := by
  refine va_MetF (cc := M.2.1) (maxL := M.2.2.2.1) (ret := M.2.2.2.2.1) hy rfl ?_
  intro p e s m args below meth c s₁ B hml hv
  obtain ⟨rfl, hK, hP, hSt⟩ := hv
  have hts := atoms_spec (ws := gCw M :: gWS) B.pre
  have hown : s.vm.findClass M.1.cls = some m.cls := findClass_of_methodNamed B.named
  have hlen : (lg_sl (as.map (gv E.2.2.2))).length ≤ M.2.2.2.1 := by
    have e1 : ∀ vs : List Value, (lg_sl (vs.map (gv E.2.2.2))).length = (lg_sl vs).length := by
      intro vs
      induction vs with
      | nil => rfl
      | cons v vs ih =>
        have q : ∀ (w : Value) (ws : List Value), (lg_sl (w :: ws)).length = (if w.category = 2 then 2 else 1) + (lg_sl ws).length := by
          intro w ws
          by_cases h : w.category = 2
          · simp [lg_sl, h]; omega
          · simp [lg_sl, h]; omega
        rw [List.map_cons, q, q, gv_cat, ih]
    rw [e1]; exact hn
  have hl := lv_entry (as.map (gv E.2.2.2)) (n := M.2.2.2.1) hlen
  rw [lg_entry_eq]
  rw [gl_args] at hl
  exact k p e _ s m _ below meth c s.heap [] _ ⟨B.exec, B.bytes, B.returns, hml, by rw [← hcl]; exact hown, fun w hw => hts w (List.mem_cons_of_mem _ hw), B.notSynchronized, Nat.le_refl _, Nat.le_refl _, hK, hSt⟩ hP va_S.rf hl
theorem so_inj {α : Type} {a r : α} {σ σ' : gS} (h : some (a, σ) = some (r, σ')) : a = r ∧ σ = σ' := ⟨(Prod.mk.inj (Option.some.inj h)).1, (Prod.mk.inj (Option.some.inj h)).2⟩

/-! FIELDS, ARRAYS, CALLS, RETURNS -/
/-- the field k of class ci, as class own's entry idx names it -/
def gFl (own : String) (idx ci k : Nat) : Prop := ∃ (C : String) (T : u_T) (N : Nat), vwCl[ci]? = some (C, T, N) ∧ k < N ∧ (∀ w ∈ u_ws C T N, w ∈ gWS) ∧ (Cond.fieldLink own idx (T k).1 (T k).2.1 (T k).2.2.1 ∈ gWS ∨ ∃ host, (own, idx, (T k).1, (T k).2.1, (T k).2.2.1, host) ∈ gNFs)
/-- the same, of a field that may be written, of type ty -/
def gFp (own : String) (idx ci k : Nat) (ty : FieldType) : Prop := ∃ (C : String) (T : u_T) (N : Nat), vwCl[ci]? = some (C, T, N) ∧ k < N ∧ (∀ w ∈ u_ws C T N, w ∈ gWS) ∧ (Cond.fieldLink own idx (T k).1 (T k).2.1 (T k).2.2.1 ∈ gWS ∨ ∃ host, (own, idx, (T k).1, (T k).2.1, (T k).2.2.1, host) ∈ gNFs) ∧ (T k).2.2.2 = false ∧ parseFieldDescriptor (T k).2.2.1 = some ty ∧ (∃ ty0 : Nat → FieldType, ∀ j, j < N → parseFieldDescriptor (T j).2.2.1 = some (ty0 j)) ∧ (∀ a, a < N → ∀ b, b < N → a ≠ b → (T a).2.1 ≠ (T b).2.1)
theorem gfs_I {ad : Nat → Nat} {σ : gS} {h k : Nat} {ss : List Nat} {x : Int32} (hs : ss[k]? = some 0) : gfs ad (gsI σ h k x) h ss = (gfs ad σ h ss).set k (.int x) := by
  refine gfs_set hs (by simp [gfv, gsI, gu]) (fun j t hj _ => ?_)
  match t with
  | 0 => simp [gfv, gsI, gu, hj]
  | 1 => rfl
  | 2 => rfl
  | n + 3 => rfl
theorem gfs_J {ad : Nat → Nat} {σ : gS} {h k : Nat} {ss : List Nat} {x : Int64} (hs : ss[k]? = some 1) : gfs ad (gsJ σ h k x) h ss = (gfs ad σ h ss).set k (.long x) := by
  refine gfs_set hs (by simp [gfv, gsJ, gu]) (fun j t hj _ => ?_)
  match t with
  | 0 => rfl
  | 1 => simp [gfv, gsJ, gu, hj]
  | 2 => rfl
  | n + 3 => rfl
theorem gfs_R {ad : Nat → Nat} {σ : gS} {h k : Nat} {ss : List Nat} {x : Nat} (hs : ss[k]? = some 2) : gfs ad (gsR σ h k x) h ss = (gfs ad σ h ss).set k (.ref (ad x)) := by
  refine gfs_set hs (by simp [gfv, gsR, gu]) (fun j t hj _ => ?_)
  match t with
  | 0 => rfl
  | 1 => rfl
  | 2 => simp [gfv, gsR, gu, hj]
  | n + 3 => rfl
theorem glay_I {cy : Nat → ClassId} {ad : Nat → Nat} {σ : gS} {h k : Nat} {x : Int32} (a : Nat) (ha : a ≠ h) : glay cy ad (gsI σ h k x) a = glay cy ad σ a := glay_ne (σ := σ) (σ' := gsI σ h k x) (fun a ha => by simp [gsI, gu_ne ha]) (fun _ _ => rfl) (fun _ _ => rfl) a ha
theorem glay_J {cy : Nat → ClassId} {ad : Nat → Nat} {σ : gS} {h k : Nat} {x : Int64} (a : Nat) (ha : a ≠ h) : glay cy ad (gsJ σ h k x) a = glay cy ad σ a := glay_ne (σ := σ) (σ' := gsJ σ h k x) (fun _ _ => rfl) (fun a ha => by simp [gsJ, gu_ne ha]) (fun _ _ => rfl) a ha
theorem glay_R {cy : Nat → ClassId} {ad : Nat → Nat} {σ : gS} {h k : Nat} {x : Nat} (a : Nat) (ha : a ≠ h) : glay cy ad (gsR σ h k x) a = glay cy ad σ a := glay_ne (σ := σ) (σ' := gsR σ h k x) (fun _ _ => rfl) (fun _ _ => rfl) (fun a ha => by simp [gsR, gu_ne ha]) a ha
theorem vp_in_pos {i : Int32} {n : Nat} (h : vp_in i n) : 0 < n := by
  rcases Nat.eq_zero_or_pos n with q | q
  · subst q; exact absurd (Or.inr (Nat.zero_le _)) h
  · exact q
section GM
variable {E : gE} {M : gM} {pc : Nat} {lv : List (Nat × Value)} {st : List Value} {σ σ' : gS} {r : Option Value}
theorem g_get {h ci k idx t : Nat} {ss : List Nat} {v : Value} (hd : decode M.2.1 pc = .ok (.getfield idx, 3)) (hi : gI h = .inl (ci, ss)) (hs : ss[k]? = some t) (hf : gFl M.2.2.1 idx ci k) (hv : ∀ ad, gfv ad σ h k t = gv ad v) (kk : gG E M (pc + 3) lv (v :: st) σ r σ') : gG E M pc lv (.ref h :: st) σ r σ' := by
  intro p e R s m args below meth c H locs ls F hP hS hl
  obtain ⟨C, T, N, hc, hk, hin, hlk⟩ := hf
  have he : (gws E.2.2.1 E.2.2.2 σ)[h]? = some (E.2.2.2 h, .inr (ci, gfs E.2.2.2 σ h ss)) := by rw [gws_get (gI_lt hi), glay_o hi]
  have hk2 := kk p e R s m args below meth c H locs ls F hP hS hl
  have hval : (gfs E.2.2.2 σ h ss)[k]? = some (gv E.2.2.2 v) := (gfs_get hs).trans (congrArg some (hv _))
  obtain ⟨hx, hb, -, -, hown, hts, -, -, -, ⟨hK, hNF, -⟩, -⟩ := F
  rcases hlk with hlk | ⟨host, hlk⟩
  · exact va_get hx hb hts hin hown hK hP h he hc k hk (hts _ hlk) (fun _ q => q) hval hd hk2
  · exact va_getN hx hb hts hin hown hK hP h he hc k hk (va_Nw.use rfl (hNF _ hlk)) (fun _ q => q) hval hd hk2
theorem g_getI {h ci k idx : Nat} {ss : List Nat} (hd : decode M.2.1 pc = .ok (.getfield idx, 3)) (hi : gI h = .inl (ci, ss)) (hs : ss[k]? = some 0) (hf : gFl M.2.2.1 idx ci k) (kk : gG E M (pc + 3) lv (.int (σ.1 h k) :: st) σ r σ') : gG E M pc lv (.ref h :: st) σ r σ' := g_get hd hi hs hf (fun _ => rfl) kk
theorem g_getJ {h ci k idx : Nat} {ss : List Nat} (hd : decode M.2.1 pc = .ok (.getfield idx, 3)) (hi : gI h = .inl (ci, ss)) (hs : ss[k]? = some 1) (hf : gFl M.2.2.1 idx ci k) (kk : gG E M (pc + 3) lv (.long (σ.2.1 h k) :: st) σ r σ') : gG E M pc lv (.ref h :: st) σ r σ' := g_get hd hi hs hf (fun _ => rfl) kk
theorem g_getR {h ci k idx : Nat} {ss : List Nat} (hd : decode M.2.1 pc = .ok (.getfield idx, 3)) (hi : gI h = .inl (ci, ss)) (hs : ss[k]? = some 2) (hf : gFl M.2.2.1 idx ci k) (kk : gG E M (pc + 3) lv (.ref (σ.2.2 h k) :: st) σ r σ') : gG E M pc lv (.ref h :: st) σ r σ' := g_get hd hi hs hf (fun _ => rfl) kk
theorem g_getC {h ci k idx n : Nat} {ss : List Nat} (hd : decode M.2.1 pc = .ok (.getfield idx, 3)) (hi : gI h = .inl (ci, ss)) (hs : ss[k]? = some (n + 3)) (hf : gFl M.2.2.1 idx ci k) (kk : gG E M (pc + 3) lv (.ref n :: st) σ r σ') : gG E M pc lv (.ref h :: st) σ r σ' := g_get hd hi hs hf (fun _ => rfl) kk
theorem g_put {h ci k idx t : Nat} {ss : List Nat} {v : Value} {ty : FieldType} {σ1 : gS} (hd : decode M.2.1 pc = .ok (.putfield idx, 3)) (hi : gI h = .inl (ci, ss)) (hs : ss[k]? = some t) (hf : gFp M.2.2.1 idx ci k ty) (hn : ∀ ad, narrow ty (gv ad v) = gv ad v ∧ fits ty (gv ad v) = true) (h1 : ∀ ad, gfs ad σ1 h ss = (gfs ad σ h ss).set k (gv ad v)) (h2 : ∀ cy ad a, a ≠ h → glay cy ad σ1 a = glay cy ad σ a) (kk : gG E M (pc + 3) lv st σ1 r σ') : gG E M pc lv (v :: .ref h :: st) σ r σ' := by
  intro p e R s m args below meth c H locs ls F hP hS hl
  obtain ⟨C, T, N, hc, hk, hin, hlk, hfin, hty, ⟨ty0, hty0⟩, hnm⟩ := hf
  have hh := gI_lt hi
  have he : (gws E.2.2.1 E.2.2.2 σ)[h]? = some (E.2.2.2 h, .inr (ci, gfs E.2.2.2 σ h ss)) := by rw [gws_get hh, glay_o hi]
  have hset : (gws E.2.2.1 E.2.2.2 σ).set h (E.2.2.2 h, .inr (ci, (gfs E.2.2.2 σ h ss).set k (gv E.2.2.2 v))) = gws E.2.2.1 E.2.2.2 σ1 := gws_set hh (by rw [glay_o hi, h1]) (fun a ha => h2 _ _ a ha)
  have hlen : k < (gfs E.2.2.2 σ h ss).length := by rw [gfs_len]; exact (List.getElem?_eq_some_iff.mp hs).1
  have F0' := F
  obtain ⟨hx, hb, -, -, hown, hts, -, -, -, ⟨hK, hNF, -, hinj, -⟩, -⟩ := F
  rcases hlk with hlk | ⟨host, hlk⟩
  · exact va_put hx hb hts hin ty0 hty0 hnm hown hK hP (gws_D hinj) hS h he hc k hk (hts _ hlk) (fun _ q => q) hfin hty (hn _).1 (hn _).2 hlen hd (fun H1 locs1 hP1 _ hS1 => kk p e R s m args below meth c H1 locs1 ls F0' (by rw [← hset]; exact hP1) hS1 hl)
  · exact va_putN hx hb hts hin ty0 hty0 hnm hown hK hP (gws_D hinj) hS h he hc k hk (va_Nw.use rfl (hNF _ hlk)) (fun _ q => q) hfin hty (hn _).1 (hn _).2 hlen hd (fun H1 locs1 hP1 _ hS1 => kk p e R s m args below meth c H1 locs1 ls F0' (by rw [← hset]; exact hP1) hS1 hl)
theorem g_putI {h ci k idx : Nat} {ss : List Nat} {x : Int32} (hd : decode M.2.1 pc = .ok (.putfield idx, 3)) (hi : gI h = .inl (ci, ss)) (hs : ss[k]? = some 0) (hf : gFp M.2.2.1 idx ci k .int) (kk : gG E M (pc + 3) lv st (gsI σ h k x) r σ') : gG E M pc lv (.int x :: .ref h :: st) σ r σ' :=
  g_put hd hi hs hf (fun _ => ⟨vp_nar_int x, rfl⟩) (fun _ => gfs_I hs) (fun _ _ a ha => glay_I a ha) kk
theorem g_putZ {h ci k idx : Nat} {ss : List Nat} {x : Int32} (hd : decode M.2.1 pc = .ok (.putfield idx, 3)) (hi : gI h = .inl (ci, ss)) (hs : ss[k]? = some 0) (hf : gFp M.2.2.1 idx ci k .boolean) (hz : x = 0 ∨ x = 1) (kk : gG E M (pc + 3) lv st (gsI σ h k x) r σ') : gG E M pc lv (.int x :: .ref h :: st) σ r σ' :=
  g_put hd hi hs hf (fun _ => by rcases hz with rfl | rfl <;> exact ⟨(by decide : narrow .boolean (.int _) = .int _), (by decide : fits .boolean (.int _) = true)⟩) (fun _ => gfs_I hs) (fun _ _ a ha => glay_I a ha) kk
theorem g_putJ {h ci k idx : Nat} {ss : List Nat} {x : Int64} (hd : decode M.2.1 pc = .ok (.putfield idx, 3)) (hi : gI h = .inl (ci, ss)) (hs : ss[k]? = some 1) (hf : gFp M.2.2.1 idx ci k .long) (kk : gG E M (pc + 3) lv st (gsJ σ h k x) r σ') : gG E M pc lv (.long x :: .ref h :: st) σ r σ' :=
  g_put hd hi hs hf (fun _ => ⟨rfl, rfl⟩) (fun _ => gfs_J hs) (fun _ _ a ha => glay_J a ha) kk
theorem g_putR {h ci k idx x : Nat} {ss : List Nat} {C : String} (hd : decode M.2.1 pc = .ok (.putfield idx, 3)) (hi : gI h = .inl (ci, ss)) (hs : ss[k]? = some 2) (hf : gFp M.2.2.1 idx ci k (.object C)) (kk : gG E M (pc + 3) lv st (gsR σ h k x) r σ') : gG E M pc lv (.ref x :: .ref h :: st) σ r σ' :=
  g_put hd hi hs hf (fun _ => ⟨rfl, rfl⟩) (fun _ => gfs_R hs) (fun _ _ a ha => glay_R a ha) kk
theorem g_iald {h n : Nat} {c : Option (Nat × Nat)} {i : Int32} (hd : decode M.2.1 pc = .ok (.iaload, 1)) (hi : gI h = .inr (0, n, c)) (hin : vp_in i n) (kk : gG E M (pc + 1) lv (.int (σ.1 h i.toNatClampNeg) :: st) σ r σ') : gG E M pc lv (.int i :: .ref h :: st) σ r σ' := by
  intro p e R s m args below meth c H locs ls F hP hS hl
  have he : (gws E.2.2.1 E.2.2.2 σ)[h]? = some (E.2.2.2 h, .inl (E.2.2.1 0, n, .inl (σ.1 h))) := by rw [gws_get (gI_ltA hi (vp_in_pos hin)), glay_a hi]; rfl
  have hk2 := kk p e R s m args below meth c H locs ls F hP hS hl
  exact va_iald F.1 F.2.1 F.2.2.2.2.2.2.2.2.2.1.1 hP h 0 he rfl hin hd hk2
theorem g_bald {h n : Nat} {c : Option (Nat × Nat)} {i : Int32} (hd : decode M.2.1 pc = .ok (.baload, 1)) (hi : gI h = .inr (2, n, c)) (hin : vp_in i n) (kk : gG E M (pc + 1) lv (.int (σ.1 h i.toNatClampNeg) :: st) σ r σ') : gG E M pc lv (.int i :: .ref h :: st) σ r σ' := by
  intro p e R s m args below meth c H locs ls F hP hS hl
  have he : (gws E.2.2.1 E.2.2.2 σ)[h]? = some (E.2.2.2 h, .inl (E.2.2.1 2, n, .inl (σ.1 h))) := by rw [gws_get (gI_ltA hi (vp_in_pos hin)), glay_a hi]; rfl
  have hk2 := kk p e R s m args below meth c H locs ls F hP hS hl
  exact va_bald F.1 F.2.1 F.2.2.2.2.2.2.2.2.2.1.1 hP h 2 he rfl hin hd hk2
theorem g_zald {h n : Nat} {c : Option (Nat × Nat)} {i : Int32} (hd : decode M.2.1 pc = .ok (.baload, 1)) (hi : gI h = .inr (3, n, c)) (hin : vp_in i n) (kk : gG E M (pc + 1) lv (.int (σ.1 h i.toNatClampNeg) :: st) σ r σ') : gG E M pc lv (.int i :: .ref h :: st) σ r σ' := by
  intro p e R s m args below meth c H locs ls F hP hS hl
  have he : (gws E.2.2.1 E.2.2.2 σ)[h]? = some (E.2.2.2 h, .inl (E.2.2.1 3, n, .inl (σ.1 h))) := by rw [gws_get (gI_ltA hi (vp_in_pos hin)), glay_a hi]; rfl
  have hk2 := kk p e R s m args below meth c H locs ls F hP hS hl
  exact va_zald F.1 F.2.1 F.2.2.2.2.2.2.2.2.2.1.1 hP h 3 he rfl hin hd hk2
theorem g_lald {h n : Nat} {c : Option (Nat × Nat)} {i : Int32} (hd : decode M.2.1 pc = .ok (.laload, 1)) (hi : gI h = .inr (1, n, c)) (hin : vp_in i n) (kk : gG E M (pc + 1) lv (.long (σ.2.1 h i.toNatClampNeg) :: st) σ r σ') : gG E M pc lv (.int i :: .ref h :: st) σ r σ' := by
  intro p e R s m args below meth c H locs ls F hP hS hl
  have he : (gws E.2.2.1 E.2.2.2 σ)[h]? = some (E.2.2.2 h, .inl (E.2.2.1 1, n, .inr (.inl (σ.2.1 h)))) := by rw [gws_get (gI_ltA hi (vp_in_pos hin)), glay_a hi]; rfl
  have hk2 := kk p e R s m args below meth c H locs ls F hP hS hl
  exact va_lald F.1 F.2.1 F.2.2.2.2.2.2.2.2.2.1.1 hP h 1 he rfl hin hd hk2
theorem g_iast {h n : Nat} {c : Option (Nat × Nat)} {i : Int32} {x : Int32} (hd : decode M.2.1 pc = .ok (.iastore, 1)) (hi : gI h = .inr (0, n, c)) (hin : vp_in i n) (kk : gG E M (pc + 1) lv st (gsI σ h i.toNatClampNeg x) r σ') : gG E M pc lv (.int x :: .int i :: .ref h :: st) σ r σ' := by
  intro p e R s m args below meth c H locs ls F hP hS hl
  have hh := gI_ltA hi (vp_in_pos hin)
  have he : (gws E.2.2.1 E.2.2.2 σ)[h]? = some (E.2.2.2 h, .inl (E.2.2.1 0, n, .inl (σ.1 h))) := by rw [gws_get hh, glay_a hi]; rfl
  have hset : (gws E.2.2.1 E.2.2.2 σ).set h (E.2.2.2 h, .inl (E.2.2.1 0, n, .inl (upd (σ.1 h) i.toNatClampNeg x))) = gws E.2.2.1 E.2.2.2 (gsI σ h i.toNatClampNeg x) := gws_set hh (by
    rw [glay_a hi]
    have q : ((gsI σ h i.toNatClampNeg x).1) h = upd (σ.1 h) i.toNatClampNeg x := by funext j; simp [gsI, gu, upd, vp_updL]
    simp [gar, q]) (fun a ha => glay_I a ha)
  exact va_iast F.1 F.2.1 F.2.2.2.2.2.2.2.2.2.1.1 hP (gws_D F.2.2.2.2.2.2.2.2.2.1.2.2.2.1) hS h 0 he rfl hin hd (fun H1 locs1 hP1 _ hS1 => kk p e R s m args below meth c H1 locs1 ls F (by rw [← hset]; exact hP1) hS1 hl)
theorem g_bast {h n : Nat} {c : Option (Nat × Nat)} {i : Int32} {x : Int32} (hd : decode M.2.1 pc = .ok (.bastore, 1)) (hi : gI h = .inr (2, n, c)) (hin : vp_in i n) (kk : gG E M (pc + 1) lv st (gsI σ h i.toNatClampNeg (vp_nar .byte x)) r σ') : gG E M pc lv (.int x :: .int i :: .ref h :: st) σ r σ' := by
  intro p e R s m args below meth c H locs ls F hP hS hl
  have hh := gI_ltA hi (vp_in_pos hin)
  have he : (gws E.2.2.1 E.2.2.2 σ)[h]? = some (E.2.2.2 h, .inl (E.2.2.1 2, n, .inl (σ.1 h))) := by rw [gws_get hh, glay_a hi]; rfl
  have hset : (gws E.2.2.1 E.2.2.2 σ).set h (E.2.2.2 h, .inl (E.2.2.1 2, n, .inl (upd (σ.1 h) i.toNatClampNeg (vp_nar .byte x)))) = gws E.2.2.1 E.2.2.2 (gsI σ h i.toNatClampNeg (vp_nar .byte x)) := gws_set hh (by
    rw [glay_a hi]
    have q : ((gsI σ h i.toNatClampNeg (vp_nar .byte x)).1) h = upd (σ.1 h) i.toNatClampNeg (vp_nar .byte x) := by funext j; simp [gsI, gu, upd, vp_updL]
    simp [gar, q]) (fun a ha => glay_I a ha)
  exact va_bast F.1 F.2.1 F.2.2.2.2.2.2.2.2.2.1.1 hP (gws_D F.2.2.2.2.2.2.2.2.2.1.2.2.2.1) hS h 2 he rfl hin hd (fun H1 locs1 hP1 _ hS1 => kk p e R s m args below meth c H1 locs1 ls F (by rw [← hset]; exact hP1) hS1 hl)
theorem g_zast {h n : Nat} {c : Option (Nat × Nat)} {i : Int32} {x : Int32} (hd : decode M.2.1 pc = .ok (.bastore, 1)) (hi : gI h = .inr (3, n, c)) (hin : vp_in i n) (kk : gG E M (pc + 1) lv st (gsI σ h i.toNatClampNeg (vp_nar .boolean x)) r σ') : gG E M pc lv (.int x :: .int i :: .ref h :: st) σ r σ' := by
  intro p e R s m args below meth c H locs ls F hP hS hl
  have hh := gI_ltA hi (vp_in_pos hin)
  have he : (gws E.2.2.1 E.2.2.2 σ)[h]? = some (E.2.2.2 h, .inl (E.2.2.1 3, n, .inl (σ.1 h))) := by rw [gws_get hh, glay_a hi]; rfl
  have hset : (gws E.2.2.1 E.2.2.2 σ).set h (E.2.2.2 h, .inl (E.2.2.1 3, n, .inl (upd (σ.1 h) i.toNatClampNeg (vp_nar .boolean x)))) = gws E.2.2.1 E.2.2.2 (gsI σ h i.toNatClampNeg (vp_nar .boolean x)) := gws_set hh (by
    rw [glay_a hi]
    have q : ((gsI σ h i.toNatClampNeg (vp_nar .boolean x)).1) h = upd (σ.1 h) i.toNatClampNeg (vp_nar .boolean x) := by funext j; simp [gsI, gu, upd, vp_updL]
    simp [gar, q]) (fun a ha => glay_I a ha)
  exact va_zast F.1 F.2.1 F.2.2.2.2.2.2.2.2.2.1.1 hP (gws_D F.2.2.2.2.2.2.2.2.2.1.2.2.2.1) hS h 3 he rfl hin hd (fun H1 locs1 hP1 _ hS1 => kk p e R s m args below meth c H1 locs1 ls F (by rw [← hset]; exact hP1) hS1 hl)
theorem g_last {h n : Nat} {c : Option (Nat × Nat)} {i : Int32} {x : Int64} (hd : decode M.2.1 pc = .ok (.lastore, 1)) (hi : gI h = .inr (1, n, c)) (hin : vp_in i n) (kk : gG E M (pc + 1) lv st (gsJ σ h i.toNatClampNeg x) r σ') : gG E M pc lv (.long x :: .int i :: .ref h :: st) σ r σ' := by
  intro p e R s m args below meth c H locs ls F hP hS hl
  have hh := gI_ltA hi (vp_in_pos hin)
  have he : (gws E.2.2.1 E.2.2.2 σ)[h]? = some (E.2.2.2 h, .inl (E.2.2.1 1, n, .inr (.inl (σ.2.1 h)))) := by rw [gws_get hh, glay_a hi]; rfl
  have hset : (gws E.2.2.1 E.2.2.2 σ).set h (E.2.2.2 h, .inl (E.2.2.1 1, n, .inr (.inl (vp_updL (σ.2.1 h) i.toNatClampNeg x)))) = gws E.2.2.1 E.2.2.2 (gsJ σ h i.toNatClampNeg x) := gws_set hh (by
    rw [glay_a hi]
    have q : ((gsJ σ h i.toNatClampNeg x).2.1) h = vp_updL (σ.2.1 h) i.toNatClampNeg x := by funext j; simp [gsJ, gu, upd, vp_updL]
    simp [gar, q]) (fun a ha => glay_J a ha)
  exact va_last F.1 F.2.1 F.2.2.2.2.2.2.2.2.2.1.1 hP (gws_D F.2.2.2.2.2.2.2.2.2.1.2.2.2.1) hS h 1 he rfl hin hd (fun H1 locs1 hP1 _ hS1 => kk p e R s m args below meth c H1 locs1 ls F (by rw [← hset]; exact hP1) hS1 hl)
theorem g_aaldO {h n : Nat} {c : Option (Nat × Nat)} {i : Int32} (hd : decode M.2.1 pc = .ok (.aaload, 1)) (hi : gI h = .inr (4, n, c)) (hin : vp_in i n) (kk : gG E M (pc + 1) lv (.ref (gel σ h c i.toNatClampNeg) :: st) σ r σ') : gG E M pc lv (.int i :: .ref h :: st) σ r σ' := by
  intro p e R s m args below meth cd H locs ls F hP hS hl
  have he : (gws E.2.2.1 E.2.2.2 σ)[h]? = some (E.2.2.2 h, .inl (E.2.2.1 4, n, .inr (.inr (.inr (.inr (fun i => some (E.2.2.2 (gel σ h c i)))))))) := by rw [gws_get (gI_ltA hi (vp_in_pos hin)), glay_a hi]; rfl
  have hk2 := kk p e R s m args below meth cd H locs ls F hP hS hl
  exact va_aldq F.1 F.2.1 F.2.2.2.2.2.2.2.2.2.1.1 hP h 4 he rfl hin hd hk2
theorem g_aaldA {h n : Nat} {c : Option (Nat × Nat)} {i : Int32} (hd : decode M.2.1 pc = .ok (.aaload, 1)) (hi : gI h = .inr (5, n, c)) (hin : vp_in i n) (kk : gG E M (pc + 1) lv (.ref (gel σ h c i.toNatClampNeg) :: st) σ r σ') : gG E M pc lv (.int i :: .ref h :: st) σ r σ' := by
  intro p e R s m args below meth cd H locs ls F hP hS hl
  have he : (gws E.2.2.1 E.2.2.2 σ)[h]? = some (E.2.2.2 h, .inl (E.2.2.1 5, n, .inr (.inr (.inr (.inr (fun i => some (E.2.2.2 (gel σ h c i)))))))) := by rw [gws_get (gI_ltA hi (vp_in_pos hin)), glay_a hi]; rfl
  have hk2 := kk p e R s m args below meth cd H locs ls F hP hS hl
  have hlt : i.toNatClampNeg < n := Nat.not_le.mp fun q => hin (Or.inr q)
  exact W.aald (v := va_rf (some (E.2.2.2 (gel σ h c i.toNatClampNeg)))) (ty := .array .int) F.1 F.2.1 (hP h _ he) ((F.2.2.2.2.2.2.2.2.2.1.1.2 5 _ rfl).1 n (fun j => va_rf (some (E.2.2.2 (gel σ h c j))))) rfl (fun q => by cases q) (by show ¬ (i < 0 ∨ (arrV _ _ _).slots.size ≤ _); rw [arrV_size]; exact hin) (by show (arrV _ _ _).slots[_]? = _; rw [arrV_read _ _ hlt]) rfl rfl hd hk2
theorem g_alenI {h n : Nat} {c : Option (Nat × Nat)} (hd : decode M.2.1 pc = .ok (.arraylength, 1)) (hi : gI h = .inr (0, n, c)) (hn : 0 < n) (kk : gG E M (pc + 1) lv (.int (Int32.ofNat n) :: st) σ r σ') : gG E M pc lv (.ref h :: st) σ r σ' := by
  intro p e R s m args below meth cd H locs ls F hP hS hl
  have he : (gws E.2.2.1 E.2.2.2 σ)[h]? = some (E.2.2.2 h, .inl (E.2.2.1 0, n, .inl (σ.1 h))) := by rw [gws_get (gI_ltA hi hn), glay_a hi]; rfl
  exact va_alen F.1 F.2.1 F.2.2.2.2.2.2.2.2.2.1.1 hP h 0 he (ty := .int) rfl rfl hd (kk p e R s m args below meth cd H locs ls F hP hS hl)
theorem g_alenJ {h n : Nat} {c : Option (Nat × Nat)} (hd : decode M.2.1 pc = .ok (.arraylength, 1)) (hi : gI h = .inr (1, n, c)) (hn : 0 < n) (kk : gG E M (pc + 1) lv (.int (Int32.ofNat n) :: st) σ r σ') : gG E M pc lv (.ref h :: st) σ r σ' := by
  intro p e R s m args below meth cd H locs ls F hP hS hl
  have he : (gws E.2.2.1 E.2.2.2 σ)[h]? = some (E.2.2.2 h, .inl (E.2.2.1 1, n, .inr (.inl (σ.2.1 h)))) := by rw [gws_get (gI_ltA hi hn), glay_a hi]; rfl
  exact va_alen F.1 F.2.1 F.2.2.2.2.2.2.2.2.2.1.1 hP h 1 he (ty := .long) rfl rfl hd (kk p e R s m args below meth cd H locs ls F hP hS hl)
theorem g_ldc {idx : Nat} {v : Int32} (hd : decode M.2.1 pc = .ok (.ldc idx, 2)) (hw : Cond.constant M.2.2.1 idx v ∈ gWS) (kk : gG E M (pc + 2) lv (.int v :: st) σ r σ') : gG E M pc lv st σ r σ' :=
  fun p e R s m args below meth c H locs ls F hP hS hl => lv_ldc F.1 F.2.1 F.2.2.2.2.1 (F.2.2.2.2.2.1 _ hw) hd (kk p e R s m args below meth c H locs ls F hP hS hl)
theorem g_ldcw {idx : Nat} {v : Int32} (hd : decode M.2.1 pc = .ok (.ldc_w idx, 3)) (hw : Cond.constant M.2.2.1 idx v ∈ gWS) (kk : gG E M (pc + 3) lv (.int v :: st) σ r σ') : gG E M pc lv st σ r σ' :=
  fun p e R s m args below meth c H locs ls F hP hS hl => lv_ldcw F.1 F.2.1 F.2.2.2.2.1 (F.2.2.2.2.2.1 _ hw) hd (kk p e R s m args below meth c H locs ls F hP hS hl)
theorem g_ldc2 {idx : Nat} {v : Int64} (hd : decode M.2.1 pc = .ok (.ldc2_w idx, 3)) (hw : Cond.constantLong M.2.2.1 idx v ∈ gWS) (kk : gG E M (pc + 3) lv (.long v :: st) σ r σ') : gG E M pc lv st σ r σ' :=
  fun p e R s m args below meth c H locs ls F hP hS hl => lv_ldc2 F.1 F.2.1 F.2.2.2.2.1 (F.2.2.2.2.2.1 _ hw) hd (kk p e R s m args below meth c H locs ls F hP hS hl)
theorem g_tabOut {dflt lo hi : Int} {offs : Array Int} {len : Nat} {x : Int32} {t : Nat} (hd : decode M.2.1 pc = .ok (.tableswitch dflt lo hi offs, len)) (h : x.toInt < lo ∨ hi < x.toInt) (ht : (pc : Int) + dflt = (t : Int)) (kk : gG E M t lv st σ r σ') : gG E M pc lv (.int x :: st) σ r σ' :=
  fun p e R s m args below meth c H locs ls F hP hS hl => lv_tableOut F.1 F.2.1 hd h ht (kk p e R s m args below meth c H locs ls F hP hS hl)
theorem g_tabIn {dflt lo hi : Int} {offs : Array Int} {len : Nat} {x : Int32} {off : Int} {t : Nat} (hd : decode M.2.1 pc = .ok (.tableswitch dflt lo hi offs, len)) (h1 : ¬ x.toInt < lo) (h2 : ¬ hi < x.toInt) (ho : offs[(x.toInt - lo).toNat]? = some off) (ht : (pc : Int) + off = (t : Int)) (kk : gG E M t lv st σ r σ') : gG E M pc lv (.int x :: st) σ r σ' :=
  fun p e R s m args below meth c H locs ls F hP hS hl => lv_tableIn F.1 F.2.1 hd h1 h2 ho ht (kk p e R s m args below meth c H locs ls F hP hS hl)
theorem g_look {dflt : Int} {ps : Array (Int × Int)} {len : Nat} {x : Int32} {off : Int} {t : Nat} (hd : decode M.2.1 pc = .ok (.lookupswitch dflt ps, len)) (hp : (ps.toList.zip (ps.toList.drop 1)).all (fun (a, next) => a.1 < next.1) = true) (ho : Op.lookupswitch.offset ps.toList dflt x.toInt = off) (ht : (pc : Int) + off = (t : Int)) (kk : gG E M t lv st σ r σ') : gG E M pc lv (.int x :: st) σ r σ' :=
  fun p e R s m args below meth c H locs ls F hP hS hl => lv_lookup F.1 F.2.1 hd hp ho ht (kk p e R s m args below meth c H locs ls F hP hS hl)
theorem g_iret {v : Int32} (hd : decode M.2.1 pc = .ok (.ireturn, 1)) (hr : M.2.2.2.2.1 = some .int) : gG E M pc lv [.int v] σ (some (.int v)) σ :=
  fun p e R s m args below meth c H locs ls F hP hS hl => W.iret F.1 F.2.1 (F.2.2.1.trans hr) (fun t ht _ => ⟨rfl, by rw [ht]; exact hP, hS.F ht⟩) hS.2.2 hd F.2.2.2.2.2.2.1
theorem g_zret {v : Int32} (hd : decode M.2.1 pc = .ok (.ireturn, 1)) (hr : M.2.2.2.2.1 = some .boolean) (hz : v = 0 ∨ v = 1) : gG E M pc lv [.int v] σ (some (.int v)) σ :=
  fun p e R s m args below meth c H locs ls F hP hS hl => W.zret F.1 F.2.1 (F.2.2.1.trans hr) (by rcases hz with rfl | rfl <;> decide) (fun t ht _ => ⟨rfl, by rw [ht]; exact hP, hS.F ht⟩) hS.2.2 hd F.2.2.2.2.2.2.1
theorem g_lret {v : Int64} (hd : decode M.2.1 pc = .ok (.lreturn, 1)) (hr : M.2.2.2.2.1 = some .long) : gG E M pc lv [.long v] σ (some (.long v)) σ :=
  fun p e R s m args below meth c H locs ls F hP hS hl => W.lret F.1 F.2.1 (F.2.2.1.trans hr) (fun t ht _ => ⟨rfl, by rw [ht]; exact hP, hS.F ht⟩) hS.2.2 hd F.2.2.2.2.2.2.1
theorem g_vret (hd : decode M.2.1 pc = .ok (.return_, 1)) (hr : M.2.2.2.2.1 = none) : gG E M pc lv [] σ none σ :=
  fun p e R s m args below meth c H locs ls F hP hS hl => W.vret F.1 F.2.1 (F.2.2.1.trans hr) (fun t ht _ => ⟨rfl, by rw [ht]; exact hP, hS.F ht⟩) hS.2.2 hd F.2.2.2.2.2.2.1
theorem g_aret {h : Nat} {rt : FieldType} (hd : decode M.2.1 pc = .ok (.areturn, 1)) (hr : M.2.2.2.2.1 = some rt) (hrt : (∃ n, rt = .object n) ∨ ∃ t, rt = .array t) : gG E M pc lv [.ref h] σ (some (.ref h)) σ :=
  fun p e R s m args below meth c H locs ls F hP hS hl => W.aret F.1 F.2.1 (F.2.2.1.trans hr) hrt (Or.inr ⟨_, rfl⟩) (fun t ht _ => ⟨rfl, by rw [ht]; exact hP, hS.F ht⟩) hS.2.2 hd F.2.2.2.2.2.2.1
/-- behind a callee that kept its contract -/
theorem g_run {p : Program} {e : Env} {R : Room} {s : State} {m : MethodId} {args : Array Value} {below : List Frame} {meth : Method} {c : Code} {H : Heap} {locs : List Loc} {Q : State → Prop} {ls : Array Slot} {st0 rest : List Value} {r1 : Option Value} {σ1 : gS} {a : Array Value}
    (hr : va_Run p E.1 e R s m args below meth c H locs 0 0 0 0 (F0 m pc ls st0) rest (gQ E r1 σ1 a) (gA E.2.2.2)) (hS : va_S (gA E.2.2.2) s.heap H locs)
    (kk : ∀ (H1 : Heap) (locs1 : List Loc), va_P E.2.1 vwCl (gws E.2.2.1 E.2.2.2 σ1) H1 → va_S (gA E.2.2.2) s.heap H1 locs1 → W p E.1 e R s m args below meth c H1 locs1 0 0 Q (F0 m (pc + 3) ls ((r1.map (gv E.2.2.2)).toList ++ rest))) : W p E.1 e R s m args below meth c H locs 0 0 Q (F0 m pc ls st0) := by
  intro T hT X
  obtain ⟨v, st₀, t, T', L, h0, X', hL, e1, e2, ⟨hv, hPt, hz, hk⟩, st⟩ := hr T hT X
  have hv' : v = r1.map (gv E.2.2.2) := Outcome.returned.inj hv
  subst hv'
  rw [h0] at hz hk
  obtain ⟨t2, a1, b1⟩ := kk T'.heap (locs ++ L) (by rw [e1]; exact hPt)
    ⟨Nat.le_trans hS.1 (by rw [e1]; exact hz), fun q h1 h2 => by rw [e1, hk q (Nat.lt_of_lt_of_le h1 hS.1) h2]; exact hS.2.1 q h1 h2, fun q hq => by
      rcases List.mem_append.mp hq with h | h
      · exact hS.2.2 q h
      · exact hL q h⟩ T' rfl X'
  exact ⟨t2, st t2 a1, b1⟩
/-- the words of a call of method N -/
def gIn (ws : List Cond) : Prop := ∀ w ∈ ws, w ∈ gWS
theorem gIn_good {N : gM} {ws : List Cond} (h : gIn (gCw N :: ws)) : GoodIn gWS (ws ++ (gCw N :: gWS)) := by
  intro w hw
  have hm : w ∈ gWS := by
    rcases List.mem_append.mp hw with q | q
    · exact h w (List.mem_cons_of_mem _ q)
    · rcases List.mem_cons.mp q with rfl | q
      · exact h _ List.mem_cons_self
      · exact q
  exact ⟨hm, good_of_word (gWS_good hm)⟩
theorem gB_pre {N : gM} {as : List Value} {s : State} {H : Heap} {locs : List Loc} {args : Array Value} {p : Program} {R : Room} {m : MethodId} {meth : Method} {c : Code} (F : gF E M p R s m args meth c) (hP : va_P E.2.1 vwCl (gws E.2.2.1 E.2.2.2 σ) H) (hS : va_S (gA E.2.2.2) s.heap H locs) : ∀ U : State, U.heap = H → s.WarmedH U.vm → va_Pc (as.map (gv E.2.2.2)) (gB E σ) (as.map (gv E.2.2.2)).toArray U := by
  intro U hU hW
  obtain ⟨-, -, -, -, -, -, -, -, -, hK, hSt⟩ := F
  exact ⟨rfl, gK.go hW hK, by rw [hU]; exact hP, by rw [hU]; exact hSt.go hW.alike (fun a h1 h2 => hS.2.1 a h1 h2)⟩
theorem gB_blind {as : List Value} : FrameBlind (va_Pc (as.map (gv E.2.2.2)) (gB E σ)) := by
  intro a U g mk h
  obtain ⟨h1, hK, hP, hSt⟩ := h
  refine ⟨h1, ⟨va_K.moved (u := U) (U := U.calling g mk a) (Vm.Alike.refl U.vm) hK.1, fun q hq => va_Nw.same rfl rfl (hK.2.1 q hq), fun q hq => va_Nw.same rfl rfl (hK.2.2.1 q hq), hK.2.2.2.1, hK.2.2.2.2.go (u := U) (U := U.calling g mk a) (Vm.Alike.refl U.vm)⟩, hP, hSt.go (Vm.Alike.refl U.vm) (fun _ _ _ => rfl)⟩
/-- words, class and room of a call; by 'decide +kernel' -/
def gOkV (M N : gM) (idx n : Nat) : Prop := gIn (gCw N :: [.methodLink M.2.2.1 idx N.1, .instanceMethod N.1, .selects N.1.cls N.1 N.1, .initialized N.1.cls]) ∧ (N.1.cls ≠ "java/lang/invoke/MethodHandle" ∧ N.1.cls ≠ "java/lang/invoke/VarHandle" ∧ (parseMethodDescriptor N.1.desc).map (fun d => d.parameters.length) = some n) ∧ N.2.2.2.2.2.1 + 1 ≤ M.2.2.2.2.2.1 ∧ 8 + (N.2.2.2.1 + 11) + N.2.2.2.2.2.2 ≤ M.2.2.2.2.2.2
theorem g_callV {N : gM} {idx h ci : Nat} {ss : List Nat} {T : u_T} {nf : Nat} {as : List Value} {r1 : Option Value} {σ1 : gS} (hC : gC E N (.ref h :: as) σ r1 σ1) (hd : decode M.2.1 pc = .ok (.invokevirtual idx, 3)) (hi : gI h = .inl (ci, ss)) (hc : vwCl[ci]? = some (N.1.cls, T, nf)) (ok : gOkV M N idx as.length) (hw : (st.map fun v => v.category).sum ≤ 8)
    (kk : gG E M (pc + 3) lv (r1.toList ++ st) σ1 r σ') : gG E M pc lv (as.reverse ++ .ref h :: st) σ r σ' := by
  intro p e R s m args below meth c H locs ls F hP hS hl
  obtain ⟨hin, hdd, hfr, hlo⟩ := ok
  have he : (gws E.2.2.1 E.2.2.2 σ)[h]? = some (E.2.2.2 h, .inr (ci, gfs E.2.2.2 σ h ss)) := by rw [gws_get (gI_lt hi), glay_o hi]
  have hw' : ((st.map (gv E.2.2.2)).map fun v => v.category).sum ≤ 8 := by
    have : ((st.map (gv E.2.2.2)).map fun v => v.category) = st.map fun v => v.category := by simp [Function.comp_def, gv_cat]
    rw [this]; exact hw
  refine W.eq (g2 := F0 m pc ls ((as.map (gv E.2.2.2)).reverse ++ .ref (E.2.2.2 h) :: st.map (gv E.2.2.2))) (by simp [gv]) ?_
  have hcl := va_recv F.2.2.2.2.2.2.2.2.2.1.1 hP hc he
  refine g_run (va_runV (As := as.map (gv E.2.2.2)) (rest := st.map (gv E.2.2.2)) (Ts := gWS) (own := M.2.2.1) (C := N.1.cls) ⟨F.1, F.2.1, F.2.2.2.1, F.2.2.2.2.1, F.2.2.2.2.2.1⟩ hC (cwV as.length F.2.2.2.2.2.1 (gIn_good hin) rfl rfl rfl ⟨rfl, hdd⟩ ⟨Nat.le_trans hfr F.2.2.2.2.2.2.2.1, Nat.le_trans hlo F.2.2.2.2.2.2.2.2.1⟩) ⟨gB_blind, hcl, gB_pre (N := N) (as := .ref h :: as) F hP hS⟩ rfl (by simp) hl.1 rfl (lv_room hw') hd ⟨Nat.zero_le _, Nat.zero_le _⟩) hS (fun H1 locs1 hP1 hS1 => ?_)
  have hk2 := kk p e R s m args below meth c H1 locs1 ls F hP1 hS1 hl
  refine W.eq (g2 := F0 m (pc + 3) ls ((r1.toList ++ st).map (gv E.2.2.2))) (by cases r1 <;> simp) hk2
def gOkS (M N : gM) (idx n : Nat) : Prop := gIn (gCw N :: [.methodLink M.2.2.1 idx N.1, .static N.1, .initialized N.1.cls]) ∧ (N.1.cls ≠ "java/lang/invoke/MethodHandle" ∧ N.1.cls ≠ "java/lang/invoke/VarHandle" ∧ (parseMethodDescriptor N.1.desc).map (fun d => d.parameters.length) = some n) ∧ N.2.2.2.2.2.1 + 1 ≤ M.2.2.2.2.2.1 ∧ 8 + (N.2.2.2.1 + 11) + N.2.2.2.2.2.2 ≤ M.2.2.2.2.2.2
theorem g_callS {N : gM} {idx : Nat} {as : List Value} {r1 : Option Value} {σ1 : gS} (hC : gC E N as σ r1 σ1) (hd : decode M.2.1 pc = .ok (.invokestatic idx, 3)) (ok : gOkS M N idx as.length) (hw : (st.map fun v => v.category).sum ≤ 8)
    (kk : gG E M (pc + 3) lv (r1.toList ++ st) σ1 r σ') : gG E M pc lv (as.reverse ++ st) σ r σ' := by
  intro p e R s m args below meth c H locs ls F hP hS hl
  obtain ⟨hin, hdd, hfr, hlo⟩ := ok
  have hw' : ((st.map (gv E.2.2.2)).map fun v => v.category).sum ≤ 8 := by
    have : ((st.map (gv E.2.2.2)).map fun v => v.category) = st.map fun v => v.category := by simp [Function.comp_def, gv_cat]
    rw [this]; exact hw
  refine W.eq (g2 := F0 m pc ls ((as.map (gv E.2.2.2)).reverse ++ st.map (gv E.2.2.2))) (by simp) ?_
  refine g_run (va_runS (As := as.map (gv E.2.2.2)) (rest := st.map (gv E.2.2.2)) (Ts := gWS) (own := M.2.2.1) ⟨F.1, F.2.1, F.2.2.2.1, F.2.2.2.2.1, F.2.2.2.2.2.1⟩ hC (va_cwS as.length F.2.2.2.2.2.1 (gIn_good hin) rfl rfl rfl hdd ⟨Nat.le_trans hfr F.2.2.2.2.2.2.2.1, Nat.le_trans hlo F.2.2.2.2.2.2.2.2.1⟩) ⟨gB_blind, gB_pre (N := N) (as := as) F hP hS⟩ rfl (by simp) hl.1 rfl (lv_room hw') hd ⟨Nat.zero_le _, Nat.zero_le _⟩) hS (fun H1 locs1 hP1 hS1 => ?_)
  have hk2 := kk p e R s m args below meth c H1 locs1 ls F hP1 hS1 hl
  refine W.eq (g2 := F0 m (pc + 3) ls ((r1.toList ++ st).map (gv E.2.2.2))) (by cases r1 <;> simp) hk2
def gOkN (M N : gM) (idx n : Nat) (host : String) : Prop := gIn (gCw N :: [.static N.1, .initialized N.1.cls]) ∧ (M.2.2.1, idx, N.1, host) ∈ gNMs ∧ (N.1.cls ≠ "java/lang/invoke/MethodHandle" ∧ N.1.cls ≠ "java/lang/invoke/VarHandle" ∧ (parseMethodDescriptor N.1.desc).map (fun d => d.parameters.length) = some n) ∧ N.2.2.2.2.2.1 + 1 ≤ M.2.2.2.2.2.1 ∧ 8 + (N.2.2.2.1 + 11) + N.2.2.2.2.2.2 ≤ M.2.2.2.2.2.2
theorem g_callN {N : gM} {idx : Nat} {host : String} {as : List Value} {r1 : Option Value} {σ1 : gS} (hC : gC E N as σ r1 σ1) (hd : decode M.2.1 pc = .ok (.invokestatic idx, 3)) (ok : gOkN M N idx as.length host) (hw : (st.map fun v => v.category).sum ≤ 8)
    (kk : gG E M (pc + 3) lv (r1.toList ++ st) σ1 r σ') : gG E M pc lv (as.reverse ++ st) σ r σ' := by
  intro p e R s m args below meth c H locs ls F hP hS hl
  obtain ⟨hin, hnm, hdd, hfr, hlo⟩ := ok
  have hw' : ((st.map (gv E.2.2.2)).map fun v => v.category).sum ≤ 8 := by
    have : ((st.map (gv E.2.2.2)).map fun v => v.category) = st.map fun v => v.category := by simp [Function.comp_def, gv_cat]
    rw [this]; exact hw
  have hcode : GoodIn gWS (gCw N :: gWS) := fun w hw => gIn_good hin w (List.mem_append_right _ hw)
  refine W.eq (g2 := F0 m pc ls ((as.map (gv E.2.2.2)).reverse ++ st.map (gv E.2.2.2))) (by simp) ?_
  refine g_run (va_runSN (As := as.map (gv E.2.2.2)) (rest := st.map (gv E.2.2.2)) (Ts := gWS) (own := M.2.2.1) ⟨F.1, F.2.1, F.2.2.2.1, F.2.2.2.2.1, F.2.2.2.2.2.1⟩ hC ⟨va_cnB as.length F.2.2.2.2.2.1 hcode rfl rfl rfl (F.2.2.2.2.2.2.2.2.2.1.2.2.1 _ hnm) (F.2.2.2.2.2.1 _ (hin _ (by simp))) hdd ⟨Nat.le_trans hfr F.2.2.2.2.2.2.2.1, Nat.le_trans hlo F.2.2.2.2.2.2.2.2.1⟩, F.2.2.2.2.2.1 _ (hin _ (by simp)), trivial⟩ ⟨gB_blind, gB_pre (N := N) (as := as) F hP hS⟩ rfl (by simp) hl.1 rfl (lv_room hw') hd ⟨Nat.zero_le _, Nat.zero_le _⟩) hS (fun H1 locs1 hP1 hS1 => ?_)
  have hk2 := kk p e R s m args below meth c H1 locs1 ls F hP1 hS1 hl
  refine W.eq (g2 := F0 m (pc + 3) ls ((r1.toList ++ st).map (gv E.2.2.2))) (by cases r1 <;> simp) hk2
end GM

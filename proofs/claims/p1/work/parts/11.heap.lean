theorem xobj {G : xG} {h : xH} {H : Heap} {a k : Nat} {C : vw_C} (hR : xRep G h H) (hT : xT h a = k + 1) (hc : xcls[k]? = some C) : ∃ cell : Cell, H[a]? = some cell ∧ cell.cls = (xGD G).1 k ∧ cell.vm = .none ∧ ∀ j, j < C.2.2 → cell.slots[(xGD G).2 k j]? = some (xsv (xft k j) h a j) := by
  have hk9 := (xclsok k C hc).1
  obtain ⟨-, -, h3⟩ := hR.2.2.2 a (by rw [hT]; exact Nat.succ_ne_zero k)
  rw [hT] at h3
  unfold xCell at h3
  rw [if_pos (by omega)] at h3
  simp only [Nat.add_sub_cancel] at h3
  obtain ⟨r, hr, h4⟩ := h3
  cases hc.symm.trans hr
  exact h4
theorem xarr {G : xG} {h : xH} {H : Heap} {a t : Nat} {ty : FieldType} (hR : xRep G h H) (hT : xT h a = t) (h1 : 100 ≤ t) (h2 : t < 200) (hty : xat t = some ty) : H[a]? = some (arrV (xGA G t) (xN h a) (fun j => xsv ty h a j)) := by
  obtain ⟨-, -, h3⟩ := hR.2.2.2 a (by rw [hT]; omega)
  rw [hT] at h3
  unfold xCell at h3
  rw [if_neg (by omega), if_pos h2] at h3
  obtain ⟨ty', e, h4⟩ := h3
  cases hty.symm.trans e
  exact h4
theorem xCell.eqv {G : xG} {h h2 : xH} {H H2 : Heap} {a t : Nat} (hC : xCell G h H a t) (hs : ∀ (ty : FieldType) (i : Nat), xsv ty h2 a i = xsv ty h a i) (hN : xN h2 a = xN h a) (hH : H2[a]? = H[a]?) : xCell G h2 H2 a t := by
  unfold xCell at hC ⊢
  split
  · rename_i z
    rw [if_pos z] at hC
    obtain ⟨r, hr, h4⟩ := hC
    exact ⟨r, hr, (h4.kept hH).to (fun j _ => (hs _ j).symm)⟩
  · rename_i z
    rw [if_neg z] at hC
    split
    · rename_i z2
      rw [if_pos z2] at hC
      obtain ⟨ty, e, h4⟩ := hC
      refine ⟨ty, e, ?_⟩
      rw [hH, h4, hN]
      congr 2
      funext j
      exact (hs ty j).symm
    · rename_i z2
      rw [if_neg z2] at hC
      obtain ⟨cell, h4, h5⟩ := hC
      exact ⟨cell, by rw [hH]; exact h4, h5⟩
theorem xRep.write {G : xG} {h h2 : xH} {H H2 : Heap} {a : Nat} (hR : xRep G h H) (e1 : h2.1 = h.1) (e2 : h2.2.1 = h.2.1) (hs : ∀ (ty : FieldType) (b i : Nat), b ≠ a → xsv ty h2 b i = xsv ty h b i) (hz : H2.size = H.size) (hq : ∀ q : Nat, q ≠ a → H2[q]? = H[q]?) (ha : xT h a ≠ 0) (hC : xCell G h2 H2 a (xT h a)) : xRep G h2 H2 := by
  obtain ⟨r1, r2, r3, r4⟩ := hR
  have ex : xnx h2 = xnx h := congrArg Prod.fst e1
  have eT : xT h2 = xT h := congrArg Prod.fst e2
  have eN : xN h2 = xN h := congrArg Prod.snd e2
  refine ⟨by rw [hz, ex]; exact r1, by rw [ex]; exact r2, fun q hlt => ?_, fun b hb => ?_⟩
  · rw [hq q (by have := (r4 a ha).1; omega)]
    exact r3 q hlt
  · rw [eT] at hb ⊢
    rw [ex]
    obtain ⟨g1, g2, g3⟩ := r4 b hb
    refine ⟨g1, g2, ?_⟩
    by_cases hba : b = a
    · subst hba
      exact hC
    · exact g3.eqv (fun ty i => hs ty b i hba) (by rw [eN]) (hq b hba)
theorem xRep.new {G : xG} {h : xH} {H H2 : Heap} {t n sl : Nat} (hR : xRep G h H) (hz : H2.size = xnx h + 1) (hq : ∀ q : Nat, q < xnx h → H2[q]? = H[q]?) (hC : xCell G (xnw h t n sl) H2 (xnx h) t) : xRep G (xnw h t n sl) H2 := by
  obtain ⟨r1, r2, r3, r4⟩ := hR
  refine ⟨hz, Nat.le_succ_of_le r2, fun q hlt => ?_, fun b hb => ?_⟩
  · rw [hq q (Nat.lt_of_lt_of_le hlt r2)]
    exact r3 q hlt
  · by_cases hba : b = xnx h
    · subst hba
      refine ⟨r2, Nat.lt_succ_self _, ?_⟩
      rw [show xT (xnw h t n sl) (xnx h) = t from xr_s _ _ _]
      exact hC
    · have eT : xT (xnw h t n sl) b = xT h b := xr_n _ _ hba
      rw [eT] at hb ⊢
      obtain ⟨g1, g2, g3⟩ := r4 b hb
      refine ⟨g1, Nat.lt_succ_of_lt g2, g3.eqv (fun ty i => ?_) (xr_n _ _ hba) (hq b g2)⟩
      unfold xsv
      cases ty <;> first | exact congrArg Value.int (congrFun (xr_n _ _ hba) i) | exact congrArg va_rf (congrFun (xr_n _ _ hba) i) | exact congrArg Value.long (congrFun (xr_n _ _ hba) i)
theorem xsv_wI_a {h : xH} {a b j i : Nat} {x : Int32} (ty : FieldType) (hb : b ≠ a) : xsv ty (xwI h a j x) b i = xsv ty h b i := by
  unfold xsv
  cases ty <;> first | rfl | exact congrArg Value.int (xu_a _ _ _ _ hb)
theorem xsv_wI_j {h : xH} {a b j i : Nat} {x : Int32} (ty : FieldType) (hb : i ≠ j) : xsv ty (xwI h a j x) b i = xsv ty h b i := by
  unfold xsv
  cases ty <;> first | rfl | exact congrArg Value.int (xu_j _ _ _ _ hb)
theorem xsv_wP_a {h : xH} {a b j i : Nat} {x : Option Nat} (ty : FieldType) (hb : b ≠ a) : xsv ty (xwP h a j x) b i = xsv ty h b i := by
  unfold xsv
  cases ty <;> first | rfl | exact congrArg va_rf (xu_a _ _ _ _ hb)
theorem xsv_wP_j {h : xH} {a b j i : Nat} {x : Option Nat} (ty : FieldType) (hb : i ≠ j) : xsv ty (xwP h a j x) b i = xsv ty h b i := by
  unfold xsv
  cases ty <;> first | rfl | exact congrArg va_rf (xu_j _ _ _ _ hb)
theorem xsv_wJ_a {h : xH} {a b j i : Nat} {x : Int64} (ty : FieldType) (hb : b ≠ a) : xsv ty (xwJ h a j x) b i = xsv ty h b i := by
  unfold xsv
  cases ty <;> first | rfl | exact congrArg Value.long (xu_a _ _ _ _ hb)
theorem xsv_wJ_j {h : xH} {a b j i : Nat} {x : Int64} (ty : FieldType) (hb : i ≠ j) : xsv ty (xwJ h a j x) b i = xsv ty h b i := by
  unfold xsv
  cases ty <;> first | rfl | exact congrArg Value.long (xu_j _ _ _ _ hb)
/-- a step that changes the heap, but makes nothing -/
theorem xgoW {l : Launch} {G : xG} {fr wd : Nat} {M : xM} {pc pc2 : Nat} {L : List (Nat × Value)} {st st2 : List Value} {h h2 : xH} {Q : xR → xH → Prop} (k : xV l G fr wd M pc2 L st2 h2 Q) (e1 : h2.1 = h.1)
    (f : ∀ (p : Program) (e : Env) (R : Room) (s : State) (m : MethodId) (args : Array Value) (below : List Frame) (meth : Method) (c : Code) (H : Heap) (locs : List Loc) (cells slots : Nat) (ls : Array Slot) (Qw : State → Prop),
      xCx G M p s m meth c → xRep G h H → lv_has ls (xMl M) L → (∀ (H2 : Heap) (b i : Nat), xRep G h2 H2 → xGz G ≤ b → W p l e R s m args below meth c H2 (locs ++ [⟨b, i⟩]) cells slots Qw (F0 m pc2 ls st2)) → W p l e R s m args below meth c H locs cells slots Qw (F0 m pc ls st)) :
    xV l G fr wd M pc L st h Q := by
  obtain ⟨r, h', q, x1, x2, x⟩ := k
  have ex : xnx h2 = xnx h := congrArg Prod.fst e1
  have es : xsl h2 = xsl h := congrArg Prod.snd e1
  rw [ex] at x1
  rw [es] at x2
  rw [ex, es] at x
  refine ⟨r, h', q, x1, x2, fun p e R s m args below meth c H locs cells slots ls C hR hl hf h1 h2 h3 h4 => f p e R s m args below meth c H locs cells slots ls _ C hR hl (fun H2 b i hR2 hb => x p e R s m args below meth c H2 _ cells slots ls C hR2 hl (fun q0 hq0 => ?_) h1 h2 h3 h4)⟩
  rcases List.mem_append.mp hq0 with z | z
  · exact hf q0 z
  · simp only [List.mem_cons, List.not_mem_nil, or_false] at z
    subst z
    exact hb
section XHEAP
variable {l : Launch} {G : xG} {fr wd : Nat} {M : xM} {pc : Nat} {L : List (Nat × Value)} {st : List Value} {h : xH} {Q : xR → xH → Prop}
theorem x_get {ix k j a : Nat} {C : vw_C} {v : Value} (hd : decode (xMc M) pc = .ok (.getfield ix, 3)) (hT : xT h a = k + 1) (hc : xcls[k]? = some C) (hj : j < C.2.2) (hw : Cond.fieldLink (xMn M).cls ix (C.2.1 j).1 (C.2.1 j).2.1 (C.2.1 j).2.2.1 ∈ xTT) (hv : xsv (xft k j) h a j = v)
    (kq : xV l G fr wd M (pc + 3) L (v :: st) h Q) : xV l G fr wd M pc L (.ref a :: st) h Q := by
  obtain ⟨hk9, hin, hty, hnm⟩ := xclsok k C hc
  refine xgo kq (fun p e R s m args below meth c H locs cells slots ls Qw Cx hR hl kk => ?_)
  obtain ⟨cell, q1, q2, q3, q4⟩ := xobj hR hT hc
  obtain ⟨hx, hb, hml, hr, hlk, hown, hmn, hKn, -⟩ := Cx
  have hts := hKn.2.2.2.1 args
  obtain ⟨hS, hfc, kC, hkC, hkind⟩ := hKn.1 k C hc
  obtain ⟨cf, kf, fi, f, hi, hsl⟩ := hS j hj
  refine W.getf hx hb hown (hts _ hw) hi (u_facts hfc hkC (u_lays hts hin hj) hi).1 q1 (by rw [q3]; exact fun z => by cases z) (v := v) ?_ rfl rfl hd (kk ls hl)
  rw [hsl, q4 j hj, hv]
theorem x_put {ix k j a : Nat} {C : vw_C} {v : Value} {h2 : xH} (hd : decode (xMc M) pc = .ok (.putfield ix, 3)) (hT : xT h a = k + 1) (hc : xcls[k]? = some C) (hj : j < C.2.2) (hw : Cond.fieldLink (xMn M).cls ix (C.2.1 j).1 (C.2.1 j).2.1 (C.2.1 j).2.2.1 ∈ xTT)
    (hfin : (C.2.1 j).2.2.2 = false ∨ ((C.2.1 j).2.2.2 = true ∧ (xMn M).name = "<init>" ∧ (C.2.1 j).1 = (xMn M).cls)) (hn : narrow (xft k j) v = v) (hfit : fits (xft k j) v = true)
    (e1 : h2.1 = h.1) (e2 : h2.2.1 = h.2.1) (hsa : ∀ (ty : FieldType) (b i : Nat), b ≠ a → xsv ty h2 b i = xsv ty h b i) (hsj : ∀ (ty : FieldType) (b i : Nat), i ≠ j → xsv ty h2 b i = xsv ty h b i) (hv : xsv (xft k j) h2 a j = v)
    (kq : xV l G fr wd M (pc + 3) L st h2 Q) : xV l G fr wd M pc L (v :: .ref a :: st) h Q := by
  obtain ⟨hk9, hin, hty, hnm⟩ := xclsok k C hc
  refine xgoW kq e1 (fun p e R s m args below meth c H locs cells slots ls Qw Cx hR hl kk => ?_)
  obtain ⟨cell, q1, q2, q3, q4⟩ := xobj hR hT hc
  obtain ⟨hx, hb, hml, hr, hlk, hown, hmn, hKn, -⟩ := Cx
  have hts := hKn.2.2.2.1 args
  have hz : xGz G ≤ a := (hR.2.2.2 a (by rw [hT]; exact Nat.succ_ne_zero k)).1
  obtain ⟨hS, hfc, kC, hkC, hkind⟩ := hKn.1 k C hc
  have hap : ∀ x y, x < C.2.2 → y < C.2.2 → x ≠ y → (xGD G).2 k x ≠ (xGD G).2 k y := by
    intro x y hx hy hne
    obtain ⟨_, _, _, fa, hia, ea⟩ := hS x hx
    obtain ⟨_, _, _, fb, hib, eb⟩ := hS y hy
    rw [← ea, ← eb]
    refine u_apart (u_lays hts hin hx) (u_lays hts hin hy) hia hib ?_
    rw [(State.fieldFound?_type hia (hty x hx)).1, (State.fieldFound?_type hib (hty y hy)).1]
    exact hnm x hx y hy hne
  obtain ⟨cf, kf, fi, f, hi, hsl⟩ := hS j hj
  have hst := (u_facts hfc hkC (u_lays hts hin hj) hi).1
  have fin : ∀ H2 : Heap, H2[a]? = some (cell.setSlot ((xGD G).2 k j) v) → H2.size = H.size → (∀ q, q ≠ a → H2[q]? = H[q]?) → xRep G h2 H2 := by
    intro H2 g1 g2 g3
    refine hR.write e1 e2 hsa g2 g3 (by rw [hT]; exact Nat.succ_ne_zero k) ?_
    rw [hT]
    unfold xCell
    rw [if_pos (by omega)]
    simp only [Nat.add_sub_cancel]
    refine ⟨C, hc, t_OB.to (V := updV (fun i => xsv (xft k i) h a i) j v) ⟨_, g1, q2, q3, t_set q4 hap hj v⟩ (fun i _ => ?_)⟩
    unfold updV
    split
    · rename_i z
      subst z
      exact hv.symm
    · rename_i z
      exact (hsj _ a i z).symm
  have hlay := hts _ (hin _ (u_in_lay hj))
  unfold u_lay at hlay
  rcases hfin with hfin | ⟨hfin, hni, hdecl⟩
  · rw [if_neg (by rw [hfin]; decide)] at hlay
    have h6 := u_store hfc hkC hkind hlay hi (hty j hj) hn hfit
    refine W.putK hx hb (f := f) ⟨hown, hts _ hw, ⟨_, _, _, hi⟩, hst⟩ (by rw [q2]; exact h6) q1 q3 (by rw [hsl]; exact k2_hasslot (q4 j hj)) rfl rfl hd fun H2 g1 g2 g3 => ?_
    rw [hsl] at g1
    exact kk H2 a f.slot (fin H2 g1 g2 g3) hz
  · rw [if_pos hfin] at hlay
    have hcf : m.cls = cf := by
      obtain ⟨_, _, c', _, _, _, -, -, hf', -, -, -, hown2, -⟩ := Cond.laysFinal_spec hlay
      have e1 : c' = cf := by have := hi.symm.trans hf'; simp at this; exact this.1.symm
      rw [hdecl] at hown2
      rw [← e1]; exact Option.some.inj (hown.symm.trans hown2)
    have h6 := u_fits hfc hkC hkind (Or.inr hlay) hi (hty j hj) hn hfit
    refine W.putFinK hx hb hown (hts _ hw) hi hst hcf (hmn.trans hni) (by rw [q2]; exact h6) q1 q3 (by rw [hsl]; exact k2_hasslot (q4 j hj)) rfl rfl hd fun H2 g1 g2 g3 => ?_
    rw [hsl] at g1
    exact kk H2 a f.slot (fin H2 g1 g2 g3) hz
theorem x_putI {ix k j a : Nat} {C : vw_C} {x : Int32} (hd : decode (xMc M) pc = .ok (.putfield ix, 3)) (hT : xT h a = k + 1) (hc : xcls[k]? = some C) (hj : j < C.2.2) (hw : Cond.fieldLink (xMn M).cls ix (C.2.1 j).1 (C.2.1 j).2.1 (C.2.1 j).2.2.1 ∈ xTT)
    (hfin : (C.2.1 j).2.2.2 = false ∨ ((C.2.1 j).2.2.2 = true ∧ (xMn M).name = "<init>" ∧ (C.2.1 j).1 = (xMn M).cls)) (hn : narrow (xft k j) (.int x) = .int x) (hfit : fits (xft k j) (.int x) = true) (hv : xsv (xft k j) (xwI h a j x) a j = .int (xI (xwI h a j x) a j))
    (kq : xV l G fr wd M (pc + 3) L st (xwI h a j x) Q) : xV l G fr wd M pc L (.int x :: .ref a :: st) h Q :=
  x_put (h2 := xwI h a j x) hd hT hc hj hw hfin hn hfit rfl rfl (fun ty b i hb => xsv_wI_a ty hb) (fun ty b i hb => xsv_wI_j ty hb) (hv.trans (congrArg Value.int (xu_s _ _ _ _))) kq
theorem x_putP {ix k j a : Nat} {C : vw_C} {x : Option Nat} (hd : decode (xMc M) pc = .ok (.putfield ix, 3)) (hT : xT h a = k + 1) (hc : xcls[k]? = some C) (hj : j < C.2.2) (hw : Cond.fieldLink (xMn M).cls ix (C.2.1 j).1 (C.2.1 j).2.1 (C.2.1 j).2.2.1 ∈ xTT)
    (hfin : (C.2.1 j).2.2.2 = false ∨ ((C.2.1 j).2.2.2 = true ∧ (xMn M).name = "<init>" ∧ (C.2.1 j).1 = (xMn M).cls)) (hn : narrow (xft k j) (va_rf x) = va_rf x) (hfit : fits (xft k j) (va_rf x) = true) (hv : xsv (xft k j) (xwP h a j x) a j = va_rf (xP (xwP h a j x) a j))
    (kq : xV l G fr wd M (pc + 3) L st (xwP h a j x) Q) : xV l G fr wd M pc L (va_rf x :: .ref a :: st) h Q :=
  x_put (h2 := xwP h a j x) hd hT hc hj hw hfin hn hfit rfl rfl (fun ty b i hb => xsv_wP_a ty hb) (fun ty b i hb => xsv_wP_j ty hb) (hv.trans (congrArg va_rf (xu_s _ _ _ _))) kq
theorem x_alen {t a : Nat} {ty : FieldType} {n : Int32} (hd : decode (xMc M) pc = .ok (.arraylength, 1)) (hT : xT h a = t) (ht : 100 ≤ t ∧ t < 200) (hty : xat t = some ty) (hn : (xN h a).toInt32 = n)
    (kq : xV l G fr wd M (pc + 1) L (.int n :: st) h Q) : xV l G fr wd M pc L (.ref a :: st) h Q := by
  refine xgo kq (fun p e R s m args below meth c H locs cells slots ls Qw Cx hR hl kk => ?_)
  have q1 := xarr hR hT ht.1 ht.2 hty
  obtain ⟨hx, hb, hml, hr, hlk, hown, hmn, hKn, -⟩ := Cx
  exact W.alen hx hb q1 ((hKn.2.1 t ty hty).1 _ _) (by rw [arrV_size]; exact hn) rfl rfl hd (kk ls hl)
theorem x_iald {t a : Nat} {i : Int32} (hd : decode (xMc M) pc = .ok (.iaload, 1)) (hT : xT h a = t) (ht : 100 ≤ t ∧ t < 200) (hty : xat t = some .int) (hi : vp_in i (xN h a))
    (kq : xV l G fr wd M (pc + 1) L (.int (xI h a i.toNatClampNeg) :: st) h Q) : xV l G fr wd M pc L (.int i :: .ref a :: st) h Q := by
  refine xgo kq (fun p e R s m args below meth c H locs cells slots ls Qw Cx hR hl kk => ?_)
  have q1 := xarr hR hT ht.1 ht.2 hty
  obtain ⟨hx, hb, hml, hr, hlk, hown, hmn, hKn, -⟩ := Cx
  have hlt : i.toNatClampNeg < xN h a := Nat.not_le.mp fun q => hi (Or.inr q)
  exact W.iald hx hb q1 ((hKn.2.1 t _ hty).1 _ _) (fun q => by cases q) (by rw [arrV_size]; exact hi) (v := .int (xI h a i.toNatClampNeg)) (by rw [arrV_read _ _ hlt]; rfl) rfl rfl hd (kk ls hl)
theorem x_zald {t a : Nat} {i : Int32} (hd : decode (xMc M) pc = .ok (.baload, 1)) (hT : xT h a = t) (ht : 100 ≤ t ∧ t < 200) (hty : xat t = some .boolean) (hi : vp_in i (xN h a))
    (kq : xV l G fr wd M (pc + 1) L (.int (xI h a i.toNatClampNeg) :: st) h Q) : xV l G fr wd M pc L (.int i :: .ref a :: st) h Q := by
  refine xgo kq (fun p e R s m args below meth c H locs cells slots ls Qw Cx hR hl kk => ?_)
  have q1 := xarr hR hT ht.1 ht.2 hty
  obtain ⟨hx, hb, hml, hr, hlk, hown, hmn, hKn, -⟩ := Cx
  have hlt : i.toNatClampNeg < xN h a := Nat.not_le.mp fun q => hi (Or.inr q)
  exact W.zald hx hb q1 ((hKn.2.1 t _ hty).1 _ _) (fun q => by cases q) (by rw [arrV_size]; exact hi) (v := .int (xI h a i.toNatClampNeg)) (by rw [arrV_read _ _ hlt]; rfl) rfl rfl hd (kk ls hl)
theorem x_lald {t a : Nat} {i : Int32} (hd : decode (xMc M) pc = .ok (.laload, 1)) (hT : xT h a = t) (ht : 100 ≤ t ∧ t < 200) (hty : xat t = some .long) (hi : vp_in i (xN h a))
    (kq : xV l G fr wd M (pc + 1) L (.long (xJ h a i.toNatClampNeg) :: st) h Q) : xV l G fr wd M pc L (.int i :: .ref a :: st) h Q := by
  refine xgo kq (fun p e R s m args below meth c H locs cells slots ls Qw Cx hR hl kk => ?_)
  have q1 := xarr hR hT ht.1 ht.2 hty
  obtain ⟨hx, hb, hml, hr, hlk, hown, hmn, hKn, -⟩ := Cx
  have hlt : i.toNatClampNeg < xN h a := Nat.not_le.mp fun q => hi (Or.inr q)
  exact W.lald hx hb q1 ((hKn.2.1 t _ hty).1 _ _) (fun q => by cases q) (by rw [arrV_size]; exact hi) (v := .long (xJ h a i.toNatClampNeg)) (by rw [arrV_read _ _ hlt]; rfl) rfl rfl hd (kk ls hl)
theorem x_aald {t a : Nat} {ty : FieldType} {i : Int32} {v : Value} (hd : decode (xMc M) pc = .ok (.aaload, 1)) (hT : xT h a = t) (ht : 100 ≤ t ∧ t < 200) (hty : xat t = some ty) (href : ty.isReference = true) (hi : vp_in i (xN h a)) (hv : xsv ty h a i.toNatClampNeg = v)
    (kq : xV l G fr wd M (pc + 1) L (v :: st) h Q) : xV l G fr wd M pc L (.int i :: .ref a :: st) h Q := by
  refine xgo kq (fun p e R s m args below meth c H locs cells slots ls Qw Cx hR hl kk => ?_)
  have q1 := xarr hR hT ht.1 ht.2 hty
  obtain ⟨hx, hb, hml, hr, hlk, hown, hmn, hKn, -⟩ := Cx
  have hlt : i.toNatClampNeg < xN h a := Nat.not_le.mp fun q => hi (Or.inr q)
  exact W.aald hx hb q1 ((hKn.2.1 t _ hty).1 _ _) href (fun q => by cases q) (by rw [arrV_size]; exact hi) (v := v) (by rw [arrV_read _ _ hlt, hv]) rfl rfl hd (kk ls hl)
theorem xarrW {G : xG} {h h2 : xH} {H H2 : Heap} {a t i : Nat} {ty : FieldType} {v : Value} (hR : xRep G h H) (hT : xT h a = t) (h1 : 100 ≤ t) (h2' : t < 200) (hty : xat t = some ty) (e1 : h2.1 = h.1) (e2 : h2.2.1 = h.2.1)
    (hsa : ∀ (ty : FieldType) (b i : Nat), b ≠ a → xsv ty h2 b i = xsv ty h b i) (hsj : ∀ (ty : FieldType) (b j : Nat), j ≠ i → xsv ty h2 b j = xsv ty h b j) (hv : xsv ty h2 a i = v)
    (g1 : H2[a]? = some ((arrV (xGA G t) (xN h a) (fun j => xsv ty h a j)).setSlot i v)) (g2 : H2.size = H.size) (g3 : ∀ q, q ≠ a → H2[q]? = H[q]?) : xRep G h2 H2 := by
  refine hR.write e1 e2 hsa g2 g3 (by rw [hT]; omega) ?_
  rw [hT]
  unfold xCell
  rw [if_neg (by omega), if_pos h2']
  refine ⟨ty, hty, ?_⟩
  rw [g1, arrV_store, show xN h2 = xN h from congrArg Prod.snd e2]
  congr 2
  funext j
  unfold updV
  split
  · rename_i z
    subst z
    exact hv.symm
  · rename_i z
    exact (hsj ty a j z).symm
theorem x_iast {t a : Nat} {i x : Int32} (hd : decode (xMc M) pc = .ok (.iastore, 1)) (hT : xT h a = t) (ht : 100 ≤ t ∧ t < 200) (hty : xat t = some .int) (hi : vp_in i (xN h a))
    (kq : xV l G fr wd M (pc + 1) L st (xwI h a i.toNatClampNeg x) Q) : xV l G fr wd M pc L (.int x :: .int i :: .ref a :: st) h Q := by
  refine xgoW kq rfl (fun p e R s m args below meth c H locs cells slots ls Qw Cx hR hl kk => ?_)
  have q1 := xarr hR hT ht.1 ht.2 hty
  have hz : xGz G ≤ a := (hR.2.2.2 a (by rw [hT]; omega)).1
  obtain ⟨hx, hb, hml, hr, hlk, hown, hmn, hKn, -⟩ := Cx
  refine W.iast hx hb q1 ((hKn.2.1 t _ hty).1 _ _) (fun q => by cases q) (by rw [arrV_size]; exact hi) rfl rfl hd fun H2 g1 g2 g3 => kk H2 a _ ?_ hz
  exact xarrW (v := .int x) hR hT ht.1 ht.2 hty rfl rfl (fun ty b i hb => xsv_wI_a ty hb) (fun ty b i hb => xsv_wI_j ty hb) (congrArg Value.int (xu_s _ _ _ _)) g1 g2 g3
theorem x_last {t a : Nat} {i : Int32} {x : Int64} (hd : decode (xMc M) pc = .ok (.lastore, 1)) (hT : xT h a = t) (ht : 100 ≤ t ∧ t < 200) (hty : xat t = some .long) (hi : vp_in i (xN h a))
    (kq : xV l G fr wd M (pc + 1) L st (xwJ h a i.toNatClampNeg x) Q) : xV l G fr wd M pc L (.long x :: .int i :: .ref a :: st) h Q := by
  refine xgoW kq rfl (fun p e R s m args below meth c H locs cells slots ls Qw Cx hR hl kk => ?_)
  have q1 := xarr hR hT ht.1 ht.2 hty
  have hz : xGz G ≤ a := (hR.2.2.2 a (by rw [hT]; omega)).1
  obtain ⟨hx, hb, hml, hr, hlk, hown, hmn, hKn, -⟩ := Cx
  refine W.last hx hb q1 ((hKn.2.1 t _ hty).1 _ _) (fun q => by cases q) (by rw [arrV_size]; exact hi) rfl rfl hd fun H2 g1 g2 g3 => kk H2 a _ ?_ hz
  exact xarrW (v := .long x) hR hT ht.1 ht.2 hty rfl rfl (fun ty b i hb => xsv_wJ_a ty hb) (fun ty b i hb => xsv_wJ_j ty hb) (congrArg Value.long (xu_s _ _ _ _)) g1 g2 g3
/-- the script's own length, and its ints -/
theorem x_slen (hd : decode (xMc M) pc = .ok (.arraylength, 1)) (kq : xV l G fr wd M (pc + 1) L (.int (xGL G).toInt32 :: st) h Q) : xV l G fr wd M pc L (.ref (xGb G) :: st) h Q := by
  refine xgo kq (fun p e R s m args below meth c H locs cells slots ls Qw Cx hR hl kk => ?_)
  obtain ⟨hx, hb, hml, hr, hlk, hown, hmn, hKn, -⟩ := Cx
  obtain ⟨scr, s1, s2, s3, s4, s5⟩ := hKn.2.2.2.2.2.2
  have s1' : H[xGb G]? = some scr := by rw [hR.2.2.1 _ (Array.getElem?_eq_some_iff.mp s1).1]; exact s1
  exact W.alen hx hb s1' s2 (by rw [s4]) rfl rfl hd (kk ls hl)
theorem x_sld {i : Int32} (hd : decode (xMc M) pc = .ok (.iaload, 1)) (hi : vp_in i (xGL G)) (kq : xV l G fr wd M (pc + 1) L (.int (xGx G i.toNatClampNeg) :: st) h Q) : xV l G fr wd M pc L (.int i :: .ref (xGb G) :: st) h Q := by
  refine xgo kq (fun p e R s m args below meth c H locs cells slots ls Qw Cx hR hl kk => ?_)
  obtain ⟨hx, hb, hml, hr, hlk, hown, hmn, hKn, -⟩ := Cx
  obtain ⟨scr, s1, s2, s3, s4, s5⟩ := hKn.2.2.2.2.2.2
  have s1' : H[xGb G]? = some scr := by rw [hR.2.2.1 _ (Array.getElem?_eq_some_iff.mp s1).1]; exact s1
  have hlt : i.toNatClampNeg < xGL G := Nat.not_le.mp fun q => hi (Or.inr q)
  exact W.iald hx hb s1' s2 s3 (by rw [s4]; exact hi) (s5 _ hlt) rfl rfl hd (kk ls hl)
end XHEAP

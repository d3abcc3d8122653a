/-- a step that makes one cell -/
theorem xgoN {l : Launch} {G : xG} {fr wd : Nat} {M : xM} {pc pc2 : Nat} {L : List (Nat × Value)} {st st2 : List Value} {h : xH} {t n sl : Nat} {Q : xR → xH → Prop} (k : xV l G fr wd M pc2 L st2 (xnw h t n sl) Q)
    (f : ∀ (p : Program) (e : Env) (R : Room) (s : State) (m : MethodId) (args : Array Value) (below : List Frame) (meth : Method) (c : Code) (H : Heap) (locs : List Loc) (cells slots : Nat) (ls : Array Slot) (Qw : State → Prop),
      xCx G M p s m meth c → xRep G h H → lv_has ls (xMl M) L → cells + 1 ≤ R.cells → slots + sl ≤ R.slots → (∀ H2 : Heap, xRep G (xnw h t n sl) H2 → W p l e R s m args below meth c H2 locs (cells + 1) (slots + sl) Qw (F0 m pc2 ls st2)) → W p l e R s m args below meth c H locs cells slots Qw (F0 m pc ls st)) :
    xV l G fr wd M pc L st h Q := by
  obtain ⟨r, h', q, x1, x2, x⟩ := k
  have x1' : xnx h + 1 ≤ xnx h' := x1
  have x2' : xsl h + sl ≤ xsl h' := x2
  refine ⟨r, h', q, Nat.le_trans (Nat.le_succ _) x1', Nat.le_trans (Nat.le_add_right _ _) x2', fun p e R s m args below meth c H locs cells slots ls C hR hl hf h1 h2 h3 h4 => ?_⟩
  have e1 : (xnx h' - xnx (xnw h t n sl)) + (cells + 1) = (xnx h' - xnx h) + cells := by
    show (xnx h' - (xnx h + 1)) + (cells + 1) = _
    omega
  have e2 : (xsl h' - xsl (xnw h t n sl)) + (slots + sl) = (xsl h' - xsl h) + slots := by
    show (xsl h' - (xsl h + sl)) + (slots + sl) = _
    omega
  refine f p e R s m args below meth c H locs cells slots ls _ C hR hl (by omega) (by omega) (fun H2 hR2 => ?_)
  have z := x p e R s m args below meth c H2 locs (cells + 1) (slots + sl) ls C hR2 hl hf (by rw [e1]; exact h1) (by rw [e2]; exact h2) h3 h4
  rw [e1, e2] at z
  exact z
section XMAKE
variable {l : Launch} {G : xG} {fr wd : Nat} {M : xM} {pc : Nat} {L : List (Nat × Value)} {st : List Value} {h : xH} {Q : xR → xH → Prop}
theorem x_new {ix k : Nat} {C : vw_C} (hd : decode (xMc M) pc = .ok (.new ix, 3)) (hc : xcls[k]? = some C) (h1 : Cond.classLink (xMn M).cls ix C.1 ∈ xTT) (h2 : Cond.instantiable C.1 C.2.2 ∈ xTT) (h3 : Cond.initialized C.1 ∈ xTT) (hdf : ∀ j, j < C.2.2 → defaultValue (xft k j) = xsv (xft k j) (xnw h (k + 1) 0 C.2.2) (xnx h) j)
    (kq : xV l G fr wd M (pc + 3) L (.ref (xnx h) :: st) (xnw h (k + 1) 0 C.2.2) Q) : xV l G fr wd M pc L st h Q := by
  obtain ⟨hk9, hin, hty, hnm⟩ := xclsok k C hc
  refine xgoN kq (fun p e R s m args below meth c H locs cells slots ls Qw Cx hR hl b1 b2 kk => ?_)
  obtain ⟨hx, hb, hml, hr, hlk, hown, hmn, hKn, -⟩ := Cx
  have hts := hKn.2.2.2.1 args
  have hKc := hKn.1 k C hc
  refine W.newcK hx hb hown (hts _ h1) (hts _ h2) (hts _ h3) rfl hd b1 b2 hKc.2.1 hR.1 fun H2 kC hkC g1 g2 g3 => kk H2 ?_
  refine hR.new g2 g3 ?_
  unfold xCell
  rw [if_pos (by omega)]
  simp only [Nat.add_sub_cancel]
  exact ⟨C, hc, (u_born (fun j => xft k j) hts hin hKc hkC g1 hty).to hdf⟩
theorem x_newa {t : Nat} {ty : FieldType} {at0 : ArrayType} {n : Int32} {N : Nat} (hd : decode (xMc M) pc = .ok (.newarray at0, 2)) (ht : 100 ≤ t ∧ t < 200) (hty : xat t = some ty) (hat : newarray.typeOf at0 = ty) (hra : ∀ (U : State) (c : ClassId), va_RA U c ty = (U.vm.findClass ("[" ++ ty.toString) = some c)) (hw : Cond.arrayClass ty ∈ xTT) (hn : ¬ n < 0) (hN : n.toNatClampNeg = N) (hby : N * componentBytes ty ≤ 536870912) (hdf : ∀ j, defaultValue ty = xsv ty (xnw h t N N) (xnx h) j)
    (kq : xV l G fr wd M (pc + 2) L (.ref (xnx h) :: st) (xnw h t N N) Q) : xV l G fr wd M pc L (.int n :: st) h Q := by
  subst hat
  refine xgoN kq (fun p e R s m args below meth c H locs cells slots ls Qw Cx hR hl b1 b2 kk => ?_)
  obtain ⟨hx, hb, hml, hr, hlk, hown, hmn, hKn, -⟩ := Cx
  have hts := hKn.2.2.2.1 args
  refine va_newaK hx hb (hts _ hw) rfl hd rfl hn hN hby b1 b2 hR.1 fun H2 cA g1 g2 g3 g4 g5 => kk H2 ?_
  have hRA := (hKn.2.1 t _ hty).2
  rw [hra] at hRA
  cases g5.symm.trans hRA
  refine hR.new g2 g3 ?_
  unfold xCell
  rw [if_neg (by omega), if_pos ht.2]
  refine ⟨_, hty, ?_⟩
  rw [g1, show xN (xnw h t N N) (xnx h) = N from xr_s _ _ _]
  congr 2
  funext j
  exact hdf j
theorem x_anew {t ix : Nat} {C : String} {n : Int32} {N : Nat} (hd : decode (xMc M) pc = .ok (.anewarray ix, 3)) (ht : 100 ≤ t ∧ t < 200) (hty : xat t = some (.object C)) (h1 : Cond.classLink (xMn M).cls ix C ∈ xTT) (h2 : Cond.arrayOver (.object C) ∈ xTT) (hn : ¬ n < 0) (hN : n.toNatClampNeg = N) (hby : N * 4 ≤ 536870912)
    (kq : xV l G fr wd M (pc + 3) L (.ref (xnx h) :: st) (xnw h t N N) Q) : xV l G fr wd M pc L (.int n :: st) h Q := by
  subst hN
  refine xgoN kq (fun p e R s m args below meth c H locs cells slots ls Qw Cx hR hl b1 b2 kk => ?_)
  obtain ⟨hx, hb, hml, hr, hlk, hown, hmn, hKn, -⟩ := Cx
  have hts := hKn.2.2.2.1 args
  obtain ⟨kA0, comp0, k1, k2, k3, k4⟩ := (hKn.2.1 t _ hty).2
  refine W.anew hx hb hown (hts _ h1) (hts _ h2) rfl hd rfl hn hby b1 b2 fun cA kA comp f1 f2 f3 f4 => ?_
  cases f1.symm.trans k4
  generalize hH1 : H.push ({ cls := xGA G t, slots := Array.replicate n.toNatClampNeg .null, vm := .none } : Cell) = H1
  have z1 : H1.size = xnx h + 1 := by rw [← hH1, Array.size_push, hR.1]
  have g1 : H1[xnx h]? = some (arrV (xGA G t) n.toNatClampNeg (fun _ => .null)) := by rw [← hH1, ← hR.1, Array.getElem?_push_size, ← arrV_new]
  have o1 : ∀ q : Nat, q < xnx h → H1[q]? = H[q]? := fun q hq => by rw [← hH1, Array.getElem?_push, if_neg (by rw [hR.1]; exact Nat.ne_of_lt hq)]
  rw [hR.1]
  refine kk H1 (hR.new z1 o1 ?_)
  unfold xCell
  rw [if_neg (by omega), if_pos ht.2]
  refine ⟨_, hty, ?_⟩
  rw [g1, show xN (xnw h t n.toNatClampNeg n.toNatClampNeg) (xnx h) = n.toNatClampNeg from xr_s _ _ _]
  congr 2
  funext j
  show Value.null = va_rf (xr (xP h) (xnx h) (fun _ => none) (xnx h) j)
  rw [xr_s]
  rfl
theorem x_aast {t a v k : Nat} {C : vw_C} {i : Int32} (hd : decode (xMc M) pc = .ok (.aastore, 1)) (hT : xT h a = t) (ht : 100 ≤ t ∧ t < 200) (hc : xcls[k]? = some C) (hty : xat t = some (.object C.1)) (hv : xT h v = k + 1) (hi : vp_in i (xN h a))
    (kq : xV l G fr wd M (pc + 1) L st (xwP h a i.toNatClampNeg (some v)) Q) : xV l G fr wd M pc L (.ref v :: .int i :: .ref a :: st) h Q := by
  refine xgoW kq rfl (fun p e R s m args below meth c H locs cells slots ls Qw Cx hR hl kk => ?_)
  have q1 := xarr hR hT ht.1 ht.2 hty
  have hz : xGz G ≤ a := (hR.2.2.2 a (by rw [hT]; omega)).1
  obtain ⟨cv, v1, v2, v3, -⟩ := xobj hR hv hc
  obtain ⟨hx, hb, hml, hr, hlk, hown, hmn, hKn, -⟩ := Cx
  have hcls := (hKn.1 k C hc).2
  obtain ⟨kA, comp, k1, k2, k3, -⟩ := (hKn.2.1 t _ hty).2
  have hcomp : comp = (xGD G).1 k := Option.some.inj (k3.symm.trans hcls.1)
  subst hcomp
  obtain ⟨kC, hkC, -⟩ := hcls.2
  have hlt : i.toNatClampNeg < xN h a := Nat.not_le.mp fun q => hi (Or.inr q)
  have h0 : ¬ i < 0 := fun q => hi (Or.inl q)
  refine W.aast hx hb q1 (fun q z => by cases z) (fun z => by cases z) k1 k2 rfl hkC ⟨h0, by rw [arrV_size]; exact hlt⟩ v1 (fun q z => by rw [v3] at z; cases z) (by rw [v2]; exact hkC) (by rw [v2]; exact va_assign hcls) rfl rfl hd fun H2 g1 g2 g3 => kk H2 a _ ?_ hz
  exact xarrW (v := .ref v) hR hT ht.1 ht.2 hty rfl rfl (fun ty b i hb => xsv_wP_a ty hb) (fun ty b i hb => xsv_wP_j ty hb) (congrArg va_rf (xu_s _ _ _ _)) g1 g2 g3
theorem x_objInit {ix a : Nat} (hd : decode (xMc M) pc = .ok (.invokespecial ix, 3)) (h1 : Cond.methodLink (xMn M).cls ix Lib.objectInit ∈ xTT) (h2 : Cond.instanceMethod Lib.objectInit ∈ xTT) (h3 : Cond.code Lib.objectInit ⟨#[0xb1]⟩ 1 none ∈ xTT) (hdp : 1 ≤ fr) (hdw : 20 ≤ wd) (hst : (st.map fun v => v.category).sum ≤ 8)
    (kq : xV l G fr wd M (pc + 3) L st h Q) : xV l G fr wd M pc L (.ref a :: st) h Q := by
  obtain ⟨r, h', q, x1, x2, x⟩ := kq
  refine ⟨r, h', q, x1, x2, fun p e R s m args below meth c H locs cells slots ls C hR hl hf b1 b2 b3 b4 => ?_⟩
  have kk := x p e R s m args below meth c H locs cells slots ls C hR hl hf b1 b2 b3 b4
  obtain ⟨hx, hb, hml, hr, hlk, hown, hmn, hKn, -⟩ := C
  have hts := hKn.2.2.2.1 args
  exact W.objInit hx hb hown (hts _ h1) (hts _ h2) (hts _ h3) rfl (by rw [hml]; exact hl.1) rfl hd (by omega) (by show 2 * 0 + _ + 12 ≤ R.locals; omega) kk
/-! the ends -/
theorem x_iret {v : Int32} {ty : FieldType} (hd : decode (xMc M) pc = .ok (.ireturn, 1)) (hr : xMr M = some ty) (hn : narrow ty (.int v) = .int v) (q : Q (.inl (some (.int v))) h) : xV l G fr wd M pc L [.int v] h Q := by
  refine ⟨.inl (some (.int v)), h, q, Nat.le_refl _, Nat.le_refl _, fun p e R s m args below meth c H locs cells slots ls C hR hl hf b1 b2 b3 b4 => ?_⟩
  simp only [Nat.sub_self, Nat.zero_add]
  obtain ⟨hx, hb, hml, hr', hlk, hown, hmn, hKn, -⟩ := C
  exact W.zret (Qc := fun _ _ o t => o = .returned (some (.int v)) ∧ xRep G h t.heap) (free := fun q => xGz G ≤ q) hx hb (hr'.trans hr) hn (fun t ht hW => ⟨rfl, by rw [ht]; exact hR⟩) hf hd hlk
theorem x_lret {v : Int64} (hd : decode (xMc M) pc = .ok (.lreturn, 1)) (hr : xMr M = some .long) (q : Q (.inl (some (.long v))) h) : xV l G fr wd M pc L [.long v] h Q := by
  refine ⟨.inl (some (.long v)), h, q, Nat.le_refl _, Nat.le_refl _, fun p e R s m args below meth c H locs cells slots ls C hR hl hf b1 b2 b3 b4 => ?_⟩
  simp only [Nat.sub_self, Nat.zero_add]
  obtain ⟨hx, hb, hml, hr', hlk, hown, hmn, hKn, -⟩ := C
  exact W.lret (Qc := fun _ _ o t => o = .returned (some (.long v)) ∧ xRep G h t.heap) (free := fun q => xGz G ≤ q) hx hb (hr'.trans hr) (fun t ht hW => ⟨rfl, by rw [ht]; exact hR⟩) hf hd hlk
theorem x_vret (hd : decode (xMc M) pc = .ok (.return_, 1)) (hr : xMr M = none) (q : Q (.inl none) h) : xV l G fr wd M pc L [] h Q := by
  refine ⟨.inl none, h, q, Nat.le_refl _, Nat.le_refl _, fun p e R s m args below meth c H locs cells slots ls C hR hl hf b1 b2 b3 b4 => ?_⟩
  simp only [Nat.sub_self, Nat.zero_add]
  obtain ⟨hx, hb, hml, hr', hlk, hown, hmn, hKn, -⟩ := C
  exact W.vret (Qc := fun _ _ o t => o = .returned none ∧ xRep G h t.heap) (free := fun q => xGz G ≤ q) hx hb (hr'.trans hr) (fun t ht hW => ⟨rfl, by rw [ht]; exact hR⟩) hf hd hlk
theorem x_aret {o : Option Nat} {n : String} (hd : decode (xMc M) pc = .ok (.areturn, 1)) (hr : xMr M = some (.object n)) (q : Q (.inl (some (va_rf o))) h) : xV l G fr wd M pc L [va_rf o] h Q := by
  refine ⟨.inl (some (va_rf o)), h, q, Nat.le_refl _, Nat.le_refl _, fun p e R s m args below meth c H locs cells slots ls C hR hl hf b1 b2 b3 b4 => ?_⟩
  simp only [Nat.sub_self, Nat.zero_add]
  obtain ⟨hx, hb, hml, hr', hlk, hown, hmn, hKn, -⟩ := C
  refine W.aret (Qc := fun _ _ o9 t => o9 = .returned (some (va_rf o)) ∧ xRep G h t.heap) (free := fun q => xGz G ≤ q) hx hb (hr'.trans hr) (Or.inl ⟨n, rfl⟩) ?_ (fun t ht hW => ⟨rfl, by rw [ht]; exact hR⟩) hf hd hlk
  cases o with
  | none => exact Or.inl rfl
  | some x => exact Or.inr ⟨x, rfl⟩
end XMAKE

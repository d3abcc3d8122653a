section XSUGAR
variable {l : Launch} {G : xG} {fr wd : Nat} {M : xM} {pc : Nat} {L : List (Nat × Value)} {st : List Value} {h : xH} {Q : xR → xH → Prop}
theorem x_getI {ix k j a : Nat} {C : vw_C} (hd : decode (xMc M) pc = .ok (.getfield ix, 3)) (hT : xT h a = k + 1) (hc : xcls[k]? = some C) (hj : j < C.2.2) (hw : Cond.fieldLink (xMn M).cls ix (C.2.1 j).1 (C.2.1 j).2.1 (C.2.1 j).2.2.1 ∈ xTT) (hv : xsv (xft k j) h a j = .int (xI h a j))
    (kq : xV l G fr wd M (pc + 3) L (.int (xI h a j) :: st) h Q) : xV l G fr wd M pc L (.ref a :: st) h Q := x_get hd hT hc hj hw hv kq
theorem x_getQ {ix k j a : Nat} {C : vw_C} (hd : decode (xMc M) pc = .ok (.getfield ix, 3)) (hT : xT h a = k + 1) (hc : xcls[k]? = some C) (hj : j < C.2.2) (hw : Cond.fieldLink (xMn M).cls ix (C.2.1 j).1 (C.2.1 j).2.1 (C.2.1 j).2.2.1 ∈ xTT) (hv : xsv (xft k j) h a j = va_rf (xP h a j))
    (kq : xV l G fr wd M (pc + 3) L (va_rf (xP h a j) :: st) h Q) : xV l G fr wd M pc L (.ref a :: st) h Q := x_get hd hT hc hj hw hv kq
theorem x_getR {ix k j a b : Nat} {C : vw_C} (hd : decode (xMc M) pc = .ok (.getfield ix, 3)) (hT : xT h a = k + 1) (hc : xcls[k]? = some C) (hj : j < C.2.2) (hw : Cond.fieldLink (xMn M).cls ix (C.2.1 j).1 (C.2.1 j).2.1 (C.2.1 j).2.2.1 ∈ xTT) (hv : xsv (xft k j) h a j = va_rf (xP h a j)) (hp : xP h a j = some b)
    (kq : xV l G fr wd M (pc + 3) L (.ref b :: st) h Q) : xV l G fr wd M pc L (.ref a :: st) h Q := x_get hd hT hc hj hw (hv.trans (by rw [hp]; rfl)) kq
theorem x_aaldR {t a b : Nat} {C : String} {i : Int32} (hd : decode (xMc M) pc = .ok (.aaload, 1)) (hT : xT h a = t) (ht : 100 ≤ t ∧ t < 200) (hty : xat t = some (.object C)) (hi : vp_in i (xN h a)) (hp : xP h a i.toNatClampNeg = some b)
    (kq : xV l G fr wd M (pc + 1) L (.ref b :: st) h Q) : xV l G fr wd M pc L (.int i :: .ref a :: st) h Q := x_aald hd hT ht hty rfl hi (show va_rf (xP h a i.toNatClampNeg) = .ref b by rw [hp]; rfl) kq
theorem x_inc {i : Nat} {x : Int32} (hd : decode (xMc M) pc = .ok (.iinc i 1, 3)) (hx : xlk L i = some (.int x)) (hn : i < xMl M) (kq : xV l G fr wd M (pc + 3) (xst L i (.int (x + 1))) st h Q) : xV l G fr wd M pc L st h Q := x_iinc hd hx rfl hn kq
/-- a reference on the stack, under the name that comparisons ask -/
theorem x_asQ1 {a : Nat} (kq : xV l G fr wd M pc L (va_rf (some a) :: st) h Q) : xV l G fr wd M pc L (.ref a :: st) h Q := kq
theorem x_getE {ix k j a : Nat} {C : vw_C} {v : Int32} (hd : decode (xMc M) pc = .ok (.getfield ix, 3)) (hT : xT h a = k + 1) (hc : xcls[k]? = some C) (hj : j < C.2.2) (hw : Cond.fieldLink (xMn M).cls ix (C.2.1 j).1 (C.2.1 j).2.1 (C.2.1 j).2.2.1 ∈ xTT) (hv : xsv (xft k j) h a j = .int (xI h a j)) (he : xI h a j = v)
    (kq : xV l G fr wd M (pc + 3) L (.int v :: st) h Q) : xV l G fr wd M pc L (.ref a :: st) h Q := x_get hd hT hc hj hw (hv.trans (by rw [he])) kq
theorem x_alenN {a cap : Nat} {t : Nat} {ty : FieldType} (hd : decode (xMc M) pc = .ok (.arraylength, 1)) (hT : xT h a = t) (ht : 100 ≤ t ∧ t < 200) (hty : xat t = some ty) (hn : xN h a = cap)
    (kq : xV l G fr wd M (pc + 1) L (.int (nI cap) :: st) h Q) : xV l G fr wd M pc L (.ref a :: st) h Q := x_alen hd hT ht hty (by rw [hn]; rfl) kq
theorem x_ialdN {a i cap : Nat} {v : Int32} (hd : decode (xMc M) pc = .ok (.iaload, 1)) (hT : xT h a = 100) (hn : xN h a = cap) (hi : i < cap) (hc : cap < 2 ^ 31) (he : xI h a i = v)
    (kq : xV l G fr wd M (pc + 1) L (.int v :: st) h Q) : xV l G fr wd M pc L (.int (nI i) :: .ref a :: st) h Q := by
  refine x_iald (t := 100) hd hT (by decide) rfl (by rw [hn]; exact vp_in_nI hi hc) ?_
  rw [nI_clamp (Nat.lt_trans hi hc), he]
  exact kq
theorem x_zaldN {a i cap : Nat} {v : Int32} (hd : decode (xMc M) pc = .ok (.baload, 1)) (hT : xT h a = 101) (hn : xN h a = cap) (hi : i < cap) (hc : cap < 2 ^ 31) (he : xI h a i = v)
    (kq : xV l G fr wd M (pc + 1) L (.int v :: st) h Q) : xV l G fr wd M pc L (.int (nI i) :: .ref a :: st) h Q := by
  refine x_zald (t := 101) hd hT (by decide) rfl (by rw [hn]; exact vp_in_nI hi hc) ?_
  rw [nI_clamp (Nat.lt_trans hi hc), he]
  exact kq
theorem x_iastN {a i cap : Nat} {v : Int32} (hd : decode (xMc M) pc = .ok (.iastore, 1)) (hT : xT h a = 100) (hn : xN h a = cap) (hi : i < cap) (hc : cap < 2 ^ 31)
    (kq : xV l G fr wd M (pc + 1) L st (xwI h a i v) Q) : xV l G fr wd M pc L (.int v :: .int (nI i) :: .ref a :: st) h Q := by
  refine x_iast (t := 100) hd hT (by decide) rfl (by rw [hn]; exact vp_in_nI hi hc) ?_
  rw [nI_clamp (Nat.lt_trans hi hc)]
  exact kq
theorem x_aaldN {t a b i cap : Nat} {C : String} (hd : decode (xMc M) pc = .ok (.aaload, 1)) (hT : xT h a = t) (ht : 100 ≤ t ∧ t < 200) (hty : xat t = some (.object C)) (hn : xN h a = cap) (hi : i < cap) (hc : cap < 2 ^ 31) (hp : xP h a i = some b)
    (kq : xV l G fr wd M (pc + 1) L (.ref b :: st) h Q) : xV l G fr wd M pc L (.int (nI i) :: .ref a :: st) h Q := by
  refine x_aaldR hd hT ht hty (by rw [hn]; exact vp_in_nI hi hc) ?_ kq
  rw [nI_clamp (Nat.lt_trans hi hc)]
  exact hp
end XSUGAR

/-! THE CLASS'S CELLS: z the root; C k j: the ints of cell z + k; b: which of the two jobs is under way; tk w: the task of worker w (0 .. 5 a map, 8 .. 10 a reduce one) -/
def jo (b : Bool) : Nat := if b then 29 else 8
def taddr (t : Nat) : Nat := if t < 8 then 56 + 3 * t else 64 + t
theorem taddr_inj {s t : Nat} (hs : tok s) (ht : tok t) (h : taddr s = taddr t) : s = t := by
  unfold taddr at h; split at h <;> split at h <;> omega
theorem taddr_lt {t : Nat} (ht : tok t) : taddr t < 75 ∧ 56 ≤ taddr t := by
  unfold taddr; split <;> omega
theorem jo75 (b : Bool) : jo b < 75 := by cases b <;> decide
theorem jo1 (b : Bool) : 1 ≤ jo b := by cases b <;> decide
theorem jo_lt (b : Bool) : jo b ≤ 29 ∧ 8 ≤ jo b := by cases b <;> decide
abbrev cset (z : Nat) (C : Nat → Nat → Int32) (b : Bool) (tk : Nat → Option Nat) (h : xH) : xH :=
  (h.1, h.2.1, (fun a j => if z ≤ a ∧ a < z + 75 then C (a - z) j else h.2.2.1 a j),
    (fun a j => if a = z ∧ j = 5 then some (z + jo b) else if a = z ∧ j = 6 then some (z + jo (!b)) else if z + 50 ≤ a ∧ a < z + 54 ∧ j = 2 then (tk (a - (z + 50))).map (fun t => z + taddr t) else h.2.2.2.1 a j), h.2.2.2.2)
def isP (o cap : Nat) : Prop := (o = 5 ∧ cap = 6) ∨ (∃ b p, p < 3 ∧ o = jo b + 3 + 6 * p ∧ cap = 216) ∨ (∃ b p, p < 3 ∧ o = jo b + 6 + 6 * p ∧ cap = 36)
theorem isP_lt {o cap : Nat} (h : isP o cap) : o + 2 < 50 ∧ 5 ≤ o ∧ cap < 2 ^ 31 := by
  rcases h with ⟨h1, h2⟩ | ⟨b, p, h1, h2, h3⟩ | ⟨b, p, h1, h2, h3⟩
  · omega
  · have := jo_lt b; omega
  · have := jo_lt b; omega
theorem P75 {o cap : Nat} (h : isP o cap) : o < 75 := by have := isP_lt h; omega
theorem P1 {o cap : Nat} (h : isP o cap) : 1 ≤ o := by have := isP_lt h; omega
def CSh (h : xH) (z : Nat) : Prop := xT h z = 0 + 1 ∧ (xP h z 0 = some (z + 1) ∧ xP h z 1 = some (z + 2) ∧ xP h z 2 = some (z + 3) ∧ xP h z 3 = some (z + 4) ∧ xP h z 4 = some (z + 5)) ∧
  (xT h (z + 1) = 110 ∧ xN h (z + 1) = 4 ∧ ∀ w, w < 4 → xP h (z + 1) w = some (z + (50 + w))) ∧ (xT h (z + 2) = 111 ∧ xN h (z + 2) = 6 ∧ ∀ c, c < 6 → xP h (z + 2) c = some (z + (54 + 3 * c))) ∧
  (xT h (z + 3) = 112 ∧ xN h (z + 3) = 6 ∧ ∀ c, c < 6 → xP h (z + 3) c = some (z + taddr c)) ∧ (xT h (z + 4) = 112 ∧ xN h (z + 4) = 3 ∧ ∀ p, p < 3 → xP h (z + 4) p = some (z + taddr (8 + p))) ∧
  (∀ o cap, isP o cap → xT h (z + o) = 3 + 1 ∧ xP h (z + o) 0 = some (z + (o + 1)) ∧ xP h (z + o) 1 = some (z + (o + 2)) ∧ xT h (z + (o + 1)) = 100 ∧ xT h (z + (o + 2)) = 100 ∧ xN h (z + (o + 1)) = cap ∧ xN h (z + (o + 2)) = cap) ∧
  (∀ b, xT h (z + jo b) = 2 + 1 ∧ xP h (z + jo b) 0 = some (z + (jo b + 1)) ∧ xP h (z + jo b) 1 = some (z + (jo b + 2)) ∧ xT h (z + (jo b + 1)) = 113 ∧ xN h (z + (jo b + 1)) = 3 ∧ xT h (z + (jo b + 2)) = 113 ∧ xN h (z + (jo b + 2)) = 3 ∧
    (∀ p, p < 3 → xP h (z + (jo b + 1)) p = some (z + (jo b + 3 + 6 * p))) ∧ (∀ p, p < 3 → xP h (z + (jo b + 2)) p = some (z + (jo b + 6 + 6 * p)))) ∧
  (∀ w, w < 4 → xT h (z + (50 + w)) = 5 + 1) ∧ (∀ c, c < 6 → xT h (z + (54 + 3 * c)) = 1 + 1 ∧ xP h (z + (54 + 3 * c)) 0 = some (z + (55 + 3 * c)) ∧ xT h (z + (55 + 3 * c)) = 100 ∧ xN h (z + (55 + 3 * c)) = 6) ∧ (∀ t, tok t → xT h (z + taddr t) = 4 + 1)
section XCBASE
variable {l : Launch} {G : xG} {fr wd : Nat} {M : xM} {pc : Nat} {L : List (Nat × Value)} {st : List Value} {h0 : xH} {Q : xR → xH → Prop} {z : Nat} {C : Nat → Nat → Int32} {b : Bool} {tk : Nat → Option Nat}
theorem CSh.A (hs : CSh h0 z) : xT h0 z = 0 + 1 := hs.1
theorem CSh.K (hs : CSh h0 z) {w : Nat} (hw : w < 4) : xT h0 (z + (50 + w)) = 5 + 1 := hs.2.2.2.2.2.2.2.2.1 w hw
theorem CSh.Ch (hs : CSh h0 z) {c : Nat} (hc : c < 6) : xT h0 (z + (54 + 3 * c)) = 1 + 1 := (hs.2.2.2.2.2.2.2.2.2.1 c hc).1
theorem CSh.C2 (hs : CSh h0 z) {c : Nat} (hc : c < 6) : xP h0 (z + (54 + 3 * c)) 0 = some (z + (55 + 3 * c)) ∧ xT h0 (z + (55 + 3 * c)) = 100 ∧ xN h0 (z + (55 + 3 * c)) = 6 := (hs.2.2.2.2.2.2.2.2.2.1 c hc).2
theorem CSh.T (hs : CSh h0 z) {t : Nat} (ht : tok t) : xT h0 (z + taddr t) = 4 + 1 := hs.2.2.2.2.2.2.2.2.2.2 t ht
theorem CSh.P (hs : CSh h0 z) {o cap : Nat} (ho : isP o cap) : xT h0 (z + o) = 3 + 1 := (hs.2.2.2.2.2.2.1 o cap ho).1
theorem CSh.P2 (hs : CSh h0 z) {o cap : Nat} (ho : isP o cap) : xP h0 (z + o) 0 = some (z + (o + 1)) ∧ xP h0 (z + o) 1 = some (z + (o + 2)) ∧ xT h0 (z + (o + 1)) = 100 ∧ xT h0 (z + (o + 2)) = 100 ∧ xN h0 (z + (o + 1)) = cap ∧ xN h0 (z + (o + 2)) = cap := (hs.2.2.2.2.2.2.1 o cap ho).2
theorem CSh.J (hs : CSh h0 z) (b : Bool) : xT h0 (z + jo b) = 2 + 1 := (hs.2.2.2.2.2.2.2.1 b).1
theorem CSh.J2 (hs : CSh h0 z) (b : Bool) : xP h0 (z + jo b) 0 = some (z + (jo b + 1)) ∧ xP h0 (z + jo b) 1 = some (z + (jo b + 2)) ∧ xT h0 (z + (jo b + 1)) = 113 ∧ xN h0 (z + (jo b + 1)) = 3 ∧ xT h0 (z + (jo b + 2)) = 113 ∧ xN h0 (z + (jo b + 2)) = 3 ∧
    (∀ p, p < 3 → xP h0 (z + (jo b + 1)) p = some (z + (jo b + 3 + 6 * p))) ∧ (∀ p, p < 3 → xP h0 (z + (jo b + 2)) p = some (z + (jo b + 6 + 6 * p))) := (hs.2.2.2.2.2.2.2.1 b).2
theorem cset_I {k j : Nat} (hk : k < 75) : xI (cset z C b tk h0) (z + k) j = C k j := by
  show (if z ≤ z + k ∧ z + k < z + 75 then C (z + k - z) j else _) = _
  rw [if_pos ⟨by omega, by omega⟩, Nat.add_sub_cancel_left]
theorem cset_I0 {j : Nat} : xI (cset z C b tk h0) z j = C 0 j := cset_I (k := 0) (by decide)
theorem cset_w {k j : Nat} {v : Int32} (hk : k < 75) : xwI (cset z C b tk h0) (z + k) j v = cset z (xu C k j v) b tk h0 := by
  show (h0.1, h0.2.1, xu _ (z + k) j v, _) = (h0.1, h0.2.1, _, _)
  congr 3
  funext a i
  show (if a = z + k ∧ i = j then v else if z ≤ a ∧ a < z + 75 then C (a - z) i else _) = if z ≤ a ∧ a < z + 75 then (if a - z = k ∧ i = j then v else C (a - z) i) else _
  by_cases h1 : z ≤ a ∧ a < z + 75
  · rw [if_pos h1, if_pos h1]
    by_cases h2 : a = z + k ∧ i = j
    · rw [if_pos h2, if_pos ⟨by omega, h2.2⟩]
    · rw [if_neg h2, if_neg (by omega)]
  · rw [if_neg h1, if_neg h1, if_neg (by omega)]
theorem cset_w0 {j : Nat} {v : Int32} : xwI (cset z C b tk h0) z j v = cset z (xu C 0 j v) b tk h0 := cset_w (k := 0) (by decide)
theorem cset_P {k j : Nat} (hk : 1 ≤ k) (hj : ¬ (50 ≤ k ∧ k < 54 ∧ j = 2)) : xP (cset z C b tk h0) (z + k) j = xP h0 (z + k) j := by
  show (if z + k = z ∧ j = 5 then _ else if z + k = z ∧ j = 6 then _ else if z + 50 ≤ z + k ∧ z + k < z + 54 ∧ j = 2 then _ else xP h0 (z + k) j) = _
  rw [if_neg (by omega), if_neg (by omega), if_neg (by omega)]
theorem cset_P0 {j : Nat} (h5 : j < 5) : xP (cset z C b tk h0) z j = xP h0 z j := by
  show (if z = z ∧ j = 5 then _ else if z = z ∧ j = 6 then _ else if z + 50 ≤ z ∧ z < z + 54 ∧ j = 2 then _ else xP h0 z j) = _
  rw [if_neg (by omega), if_neg (by omega), if_neg (by omega)]
theorem cset_job : xP (cset z C b tk h0) z 5 = some (z + jo b) := if_pos ⟨rfl, rfl⟩
theorem cset_end : xP (cset z C b tk h0) z 6 = some (z + jo (!b)) := by
  show (if z = z ∧ 6 = 5 then _ else if z = z ∧ 6 = 6 then _ else _) = _
  rw [if_neg (by omega), if_pos ⟨rfl, rfl⟩]
theorem cset_tk {w : Nat} (hw : w < 4) : xP (cset z C b tk h0) (z + (50 + w)) 2 = (tk w).map (fun t => z + taddr t) := by
  show (if z + (50 + w) = z ∧ 2 = 5 then _ else if z + (50 + w) = z ∧ 2 = 6 then _ else if z + 50 ≤ z + (50 + w) ∧ z + (50 + w) < z + 54 ∧ 2 = 2 then (tk (z + (50 + w) - (z + 50))).map (fun t => z + taddr t) else _) = _
  rw [if_neg (by omega), if_neg (by omega), if_pos (by omega), show z + (50 + w) - (z + 50) = w by omega]
theorem cset_wT {w : Nat} {o : Option Nat} (hw : w < 4) : xwP (cset z C b tk h0) (z + (50 + w)) 2 (o.map (fun t => z + taddr t)) = cset z C b (xr tk w o) h0 := by
  show (h0.1, h0.2.1, _, xu _ (z + (50 + w)) 2 _, _) = (h0.1, h0.2.1, _, _, _)
  congr 4
  funext a i
  show (if a = z + (50 + w) ∧ i = 2 then o.map (fun t => z + taddr t) else if a = z ∧ i = 5 then some (z + jo b) else if a = z ∧ i = 6 then some (z + jo (!b)) else if z + 50 ≤ a ∧ a < z + 54 ∧ i = 2 then (tk (a - (z + 50))).map (fun t => z + taddr t) else _) = if a = z ∧ i = 5 then some (z + jo b) else if a = z ∧ i = 6 then some (z + jo (!b)) else if z + 50 ≤ a ∧ a < z + 54 ∧ i = 2 then ((if a - (z + 50) = w then o else tk (a - (z + 50)))).map (fun t => z + taddr t) else _
  by_cases h1 : a = z + (50 + w) ∧ i = 2
  · rw [if_pos h1, if_neg (by omega), if_neg (by omega), if_pos (by omega), if_pos (by omega)]
  · rw [if_neg h1]
    by_cases h2 : z + 50 ≤ a ∧ a < z + 54 ∧ i = 2
    · rw [if_neg (c := a - (z + 50) = w) (by omega)]
    · rw [if_neg h2, if_neg h2]
theorem cset_sw : xwP (xwP (cset z C b tk h0) z 5 (some (z + jo (!b)))) z 6 (some (z + jo b)) = cset z C (!b) tk h0 := by
  show (h0.1, h0.2.1, _, xu (xu _ z 5 _) z 6 _, _) = (h0.1, h0.2.1, _, _, _)
  congr 4
  funext a i
  show (if a = z ∧ i = 6 then some (z + jo b) else if a = z ∧ i = 5 then some (z + jo (!b)) else if a = z ∧ i = 5 then _ else if a = z ∧ i = 6 then _ else _) = if a = z ∧ i = 5 then some (z + jo (!b)) else if a = z ∧ i = 6 then some (z + jo (!(!b))) else _
  rw [Bool.not_not]
  by_cases h1 : a = z ∧ i = 6
  · rw [if_pos h1, if_neg (by omega), if_pos h1]
  · by_cases h2 : a = z ∧ i = 5
    · rw [if_neg h1, if_pos h2, if_pos h2]
    · simp only [if_neg h1, if_neg h2]
/-! rows -/
theorem x_getQE {h : xH} {ix k j a : Nat} {o : Option Nat} {C : vw_C} (hd : decode (xMc M) pc = .ok (.getfield ix, 3)) (hT : xT h a = k + 1) (hc : xcls[k]? = some C) (hj : j < C.2.2) (hw : Cond.fieldLink (xMn M).cls ix (C.2.1 j).1 (C.2.1 j).2.1 (C.2.1 j).2.2.1 ∈ xTT) (hv : xsv (xft k j) h a j = va_rf (xP h a j)) (hp : xP h a j = o)
    (kq : xV l G fr wd M (pc + 3) L (va_rf o :: st) h Q) : xV l G fr wd M pc L (.ref a :: st) h Q := x_get hd hT hc hj hw (hv.trans (by rw [hp])) kq
theorem xc_get {ix kc j k : Nat} {Cc : vw_C} (hd : decode (xMc M) pc = .ok (.getfield ix, 3)) (hT : xT h0 (z + k) = kc + 1) (hk : k < 75) (hc : xcls[kc]? = some Cc) (hj : j < Cc.2.2) (hw : Cond.fieldLink (xMn M).cls ix (Cc.2.1 j).1 (Cc.2.1 j).2.1 (Cc.2.1 j).2.2.1 ∈ xTT) (hv : ∀ (h : xH) (a : Nat), xsv (xft kc j) h a j = .int (xI h a j))
    (kq : xV l G fr wd M (pc + 3) L (.int (C k j) :: st) (cset z C b tk h0) Q) : xV l G fr wd M pc L (.ref (z + k) :: st) (cset z C b tk h0) Q :=
  x_getE (k := kc) hd hT hc hj hw (hv _ _) (cset_I hk) kq
theorem xc_getA {ix j : Nat} {Cc : vw_C} (hd : decode (xMc M) pc = .ok (.getfield ix, 3)) (hs : CSh h0 z) (hc : xcls[0]? = some Cc) (hj : j < Cc.2.2) (hw : Cond.fieldLink (xMn M).cls ix (Cc.2.1 j).1 (Cc.2.1 j).2.1 (Cc.2.1 j).2.2.1 ∈ xTT) (hv : ∀ (h : xH) (a : Nat), xsv (xft 0 j) h a j = .int (xI h a j))
    (kq : xV l G fr wd M (pc + 3) L (.int (C 0 j) :: st) (cset z C b tk h0) Q) : xV l G fr wd M pc L (.ref z :: st) (cset z C b tk h0) Q :=
  x_getE (k := 0) hd hs.A hc hj hw (hv _ _) cset_I0 kq
theorem xc_refA {ix j m : Nat} {Cc : vw_C} (hd : decode (xMc M) pc = .ok (.getfield ix, 3)) (hs : CSh h0 z) (hc : xcls[0]? = some Cc) (hj : j < Cc.2.2) (hw : Cond.fieldLink (xMn M).cls ix (Cc.2.1 j).1 (Cc.2.1 j).2.1 (Cc.2.1 j).2.2.1 ∈ xTT) (hv : ∀ (h : xH) (a : Nat), xsv (xft 0 j) h a j = va_rf (xP h a j)) (hp : xP (cset z C b tk h0) z j = some (z + m))
    (kq : xV l G fr wd M (pc + 3) L (.ref (z + m) :: st) (cset z C b tk h0) Q) : xV l G fr wd M pc L (.ref z :: st) (cset z C b tk h0) Q :=
  x_getR (k := 0) hd hs.A hc hj hw (hv _ _) hp kq
theorem CSh.r0 (hs : CSh h0 z) : xP (cset z C b tk h0) z 0 = some (z + 1) := (cset_P0 (by decide)).trans hs.2.1.1
theorem CSh.r1 (hs : CSh h0 z) : xP (cset z C b tk h0) z 1 = some (z + 2) := (cset_P0 (by decide)).trans hs.2.1.2.1
theorem CSh.r2 (hs : CSh h0 z) : xP (cset z C b tk h0) z 2 = some (z + 3) := (cset_P0 (by decide)).trans hs.2.1.2.2.1
theorem CSh.r3 (hs : CSh h0 z) : xP (cset z C b tk h0) z 3 = some (z + 4) := (cset_P0 (by decide)).trans hs.2.1.2.2.2.1
theorem CSh.r4 (hs : CSh h0 z) : xP (cset z C b tk h0) z 4 = some (z + 5) := (cset_P0 (by decide)).trans hs.2.1.2.2.2.2
theorem xc_ref {ix kc j k m : Nat} {Cc : vw_C} (hd : decode (xMc M) pc = .ok (.getfield ix, 3)) (hT : xT h0 (z + k) = kc + 1) (hk : 1 ≤ k ∧ j ≠ 2) (hc : xcls[kc]? = some Cc) (hj : j < Cc.2.2) (hw : Cond.fieldLink (xMn M).cls ix (Cc.2.1 j).1 (Cc.2.1 j).2.1 (Cc.2.1 j).2.2.1 ∈ xTT) (hv : ∀ (h : xH) (a : Nat), xsv (xft kc j) h a j = va_rf (xP h a j)) (hp : xP h0 (z + k) j = some (z + m))
    (kq : xV l G fr wd M (pc + 3) L (.ref (z + m) :: st) (cset z C b tk h0) Q) : xV l G fr wd M pc L (.ref (z + k) :: st) (cset z C b tk h0) Q :=
  x_getR (k := kc) hd hT hc hj hw (hv _ _) ((cset_P hk.1 (by omega)).trans hp) kq
theorem xc_task {ix w : Nat} {Cc : vw_C} (hd : decode (xMc M) pc = .ok (.getfield ix, 3)) (hs : CSh h0 z) (hw4 : w < 4) (hc : xcls[5]? = some Cc) (hj : 2 < Cc.2.2) (hw : Cond.fieldLink (xMn M).cls ix (Cc.2.1 2).1 (Cc.2.1 2).2.1 (Cc.2.1 2).2.2.1 ∈ xTT) (hv : ∀ (h : xH) (a : Nat), xsv (xft 5 2) h a 2 = va_rf (xP h a 2))
    (kq : xV l G fr wd M (pc + 3) L (va_rf ((tk w).map (fun t => z + taddr t)) :: st) (cset z C b tk h0) Q) : xV l G fr wd M pc L (.ref (z + (50 + w)) :: st) (cset z C b tk h0) Q :=
  x_getQE (k := 5) hd (hs.K hw4) hc hj hw (hv _ _) (cset_tk hw4) kq
theorem xc_put {ix kc j k : Nat} {Cc : vw_C} {x : Int32} (hd : decode (xMc M) pc = .ok (.putfield ix, 3)) (hT : xT h0 (z + k) = kc + 1) (hk : k < 75) (hc : xcls[kc]? = some Cc) (hj : j < Cc.2.2) (hw : Cond.fieldLink (xMn M).cls ix (Cc.2.1 j).1 (Cc.2.1 j).2.1 (Cc.2.1 j).2.2.1 ∈ xTT)
    (hfin : (Cc.2.1 j).2.2.2 = false ∨ ((Cc.2.1 j).2.2.2 = true ∧ (xMn M).name = "<init>" ∧ (Cc.2.1 j).1 = (xMn M).cls)) (hn : narrow (xft kc j) (.int x) = .int x) (hfit : fits (xft kc j) (.int x) = true) (hv : ∀ (h : xH) (a : Nat), xsv (xft kc j) h a j = .int (xI h a j))
    (kq : xV l G fr wd M (pc + 3) L st (cset z (xu C k j x) b tk h0) Q) : xV l G fr wd M pc L (.int x :: .ref (z + k) :: st) (cset z C b tk h0) Q :=
  x_putI (k := kc) hd hT hc hj hw hfin hn hfit (hv _ _) (by rw [cset_w hk]; exact kq)
theorem xc_putA {ix j : Nat} {Cc : vw_C} {x : Int32} (hd : decode (xMc M) pc = .ok (.putfield ix, 3)) (hs : CSh h0 z) (hc : xcls[0]? = some Cc) (hj : j < Cc.2.2) (hw : Cond.fieldLink (xMn M).cls ix (Cc.2.1 j).1 (Cc.2.1 j).2.1 (Cc.2.1 j).2.2.1 ∈ xTT)
    (hfin : (Cc.2.1 j).2.2.2 = false ∨ ((Cc.2.1 j).2.2.2 = true ∧ (xMn M).name = "<init>" ∧ (Cc.2.1 j).1 = (xMn M).cls)) (hn : narrow (xft 0 j) (.int x) = .int x) (hfit : fits (xft 0 j) (.int x) = true) (hv : ∀ (h : xH) (a : Nat), xsv (xft 0 j) h a j = .int (xI h a j))
    (kq : xV l G fr wd M (pc + 3) L st (cset z (xu C 0 j x) b tk h0) Q) : xV l G fr wd M pc L (.int x :: .ref z :: st) (cset z C b tk h0) Q :=
  x_putI (k := 0) hd hs.A hc hj hw hfin hn hfit (hv _ _) (by rw [cset_w0]; exact kq)
theorem xc_aaW {w : Nat} (hd : decode (xMc M) pc = .ok (.aaload, 1)) (hs : CSh h0 z) (hw : w < 4) (kq : xV l G fr wd M (pc + 1) L (.ref (z + (50 + w)) :: st) (cset z C b tk h0) Q) : xV l G fr wd M pc L (.int (nI w) :: .ref (z + 1) :: st) (cset z C b tk h0) Q :=
  x_aaldN (t := 110) (cap := 4) hd hs.2.2.1.1 (by decide) rfl hs.2.2.1.2.1 hw (by decide) ((cset_P (by decide) (by omega)).trans (hs.2.2.1.2.2 w hw)) kq
theorem xc_aaC {c : Nat} (hd : decode (xMc M) pc = .ok (.aaload, 1)) (hs : CSh h0 z) (hc : c < 6) (kq : xV l G fr wd M (pc + 1) L (.ref (z + (54 + 3 * c)) :: st) (cset z C b tk h0) Q) : xV l G fr wd M pc L (.int (nI c) :: .ref (z + 2) :: st) (cset z C b tk h0) Q :=
  x_aaldN (t := 111) (cap := 6) hd hs.2.2.2.1.1 (by decide) rfl hs.2.2.2.1.2.1 hc (by decide) ((cset_P (by decide) (by omega)).trans (hs.2.2.2.1.2.2 c hc)) kq
theorem xc_aaM {c : Nat} (hd : decode (xMc M) pc = .ok (.aaload, 1)) (hs : CSh h0 z) (hc : c < 6) (kq : xV l G fr wd M (pc + 1) L (.ref (z + taddr c) :: st) (cset z C b tk h0) Q) : xV l G fr wd M pc L (.int (nI c) :: .ref (z + 3) :: st) (cset z C b tk h0) Q :=
  x_aaldN (t := 112) (cap := 6) hd hs.2.2.2.2.1.1 (by decide) rfl hs.2.2.2.2.1.2.1 hc (by decide) ((cset_P (by decide) (by omega)).trans (hs.2.2.2.2.1.2.2 c hc)) kq
theorem xc_aaR {p : Nat} (hd : decode (xMc M) pc = .ok (.aaload, 1)) (hs : CSh h0 z) (hp : p < 3) (kq : xV l G fr wd M (pc + 1) L (.ref (z + taddr (8 + p)) :: st) (cset z C b tk h0) Q) : xV l G fr wd M pc L (.int (nI p) :: .ref (z + 4) :: st) (cset z C b tk h0) Q :=
  x_aaldN (t := 112) (cap := 3) hd hs.2.2.2.2.2.1.1 (by decide) rfl hs.2.2.2.2.2.1.2.1 hp (by decide) ((cset_P (by decide) (by omega)).trans (hs.2.2.2.2.2.1.2.2 p hp)) kq
theorem xc_aaT {p : Nat} {d : Bool} (hd : decode (xMc M) pc = .ok (.aaload, 1)) (hs : CSh h0 z) (hp : p < 3) (kq : xV l G fr wd M (pc + 1) L (.ref (z + (jo d + 3 + 6 * p)) :: st) (cset z C b tk h0) Q) : xV l G fr wd M pc L (.int (nI p) :: .ref (z + (jo d + 1)) :: st) (cset z C b tk h0) Q :=
  x_aaldN (t := 113) (cap := 3) hd (hs.J2 d).2.2.1 (by decide) rfl (hs.J2 d).2.2.2.1 hp (by decide) ((cset_P (by omega) (by have := jo_lt d; omega)).trans ((hs.J2 d).2.2.2.2.2.2.1 p hp)) kq
theorem xc_aaO {p : Nat} {d : Bool} (hd : decode (xMc M) pc = .ok (.aaload, 1)) (hs : CSh h0 z) (hp : p < 3) (kq : xV l G fr wd M (pc + 1) L (.ref (z + (jo d + 6 + 6 * p)) :: st) (cset z C b tk h0) Q) : xV l G fr wd M pc L (.int (nI p) :: .ref (z + (jo d + 2)) :: st) (cset z C b tk h0) Q :=
  x_aaldN (t := 113) (cap := 3) hd (hs.J2 d).2.2.2.2.1 (by decide) rfl (hs.J2 d).2.2.2.2.2.1 hp (by decide) ((cset_P (by omega) (by have := jo_lt d; omega)).trans ((hs.J2 d).2.2.2.2.2.2.2 p hp)) kq
theorem xc_ald {k i n : Nat} (hd : decode (xMc M) pc = .ok (.iaload, 1)) (hT : xT h0 (z + k) = 100) (hN : xN h0 (z + k) = n) (hk : k < 75) (hn : n < 2 ^ 31) (hi : i < n) (kq : xV l G fr wd M (pc + 1) L (.int (C k i) :: st) (cset z C b tk h0) Q) : xV l G fr wd M pc L (.int (nI i) :: .ref (z + k) :: st) (cset z C b tk h0) Q :=
  x_ialdN (cap := n) hd hT hN hi hn (cset_I hk) kq
theorem xc_ast {k i n : Nat} {v : Int32} (hd : decode (xMc M) pc = .ok (.iastore, 1)) (hT : xT h0 (z + k) = 100) (hN : xN h0 (z + k) = n) (hk : k < 75) (hn : n < 2 ^ 31) (hi : i < n) (kq : xV l G fr wd M (pc + 1) L st (cset z (xu C k i v) b tk h0) Q) : xV l G fr wd M pc L (.int v :: .int (nI i) :: .ref (z + k) :: st) (cset z C b tk h0) Q :=
  x_iastN (cap := n) hd hT hN hi hn (by rw [cset_w hk]; exact kq)
theorem xc_aldK {o cap i : Nat} (hd : decode (xMc M) pc = .ok (.iaload, 1)) (hs : CSh h0 z) (ho : isP o cap) (hi : i < cap) (kq : xV l G fr wd M (pc + 1) L (.int (C (o + 1) i) :: st) (cset z C b tk h0) Q) : xV l G fr wd M pc L (.int (nI i) :: .ref (z + (o + 1)) :: st) (cset z C b tk h0) Q :=
  xc_ald hd (hs.P2 ho).2.2.1 (hs.P2 ho).2.2.2.2.1 (by have := isP_lt ho; omega) (isP_lt ho).2.2 hi kq
theorem xc_aldV {o cap i : Nat} (hd : decode (xMc M) pc = .ok (.iaload, 1)) (hs : CSh h0 z) (ho : isP o cap) (hi : i < cap) (kq : xV l G fr wd M (pc + 1) L (.int (C (o + 2) i) :: st) (cset z C b tk h0) Q) : xV l G fr wd M pc L (.int (nI i) :: .ref (z + (o + 2)) :: st) (cset z C b tk h0) Q :=
  xc_ald hd (hs.P2 ho).2.2.2.1 (hs.P2 ho).2.2.2.2.2 (by have := isP_lt ho; omega) (isP_lt ho).2.2 hi kq
theorem xc_astK {o cap i : Nat} {v : Int32} (hd : decode (xMc M) pc = .ok (.iastore, 1)) (hs : CSh h0 z) (ho : isP o cap) (hi : i < cap) (kq : xV l G fr wd M (pc + 1) L st (cset z (xu C (o + 1) i v) b tk h0) Q) : xV l G fr wd M pc L (.int v :: .int (nI i) :: .ref (z + (o + 1)) :: st) (cset z C b tk h0) Q :=
  xc_ast hd (hs.P2 ho).2.2.1 (hs.P2 ho).2.2.2.2.1 (by have := isP_lt ho; omega) (isP_lt ho).2.2 hi kq
theorem xc_astV {o cap i : Nat} {v : Int32} (hd : decode (xMc M) pc = .ok (.iastore, 1)) (hs : CSh h0 z) (ho : isP o cap) (hi : i < cap) (kq : xV l G fr wd M (pc + 1) L st (cset z (xu C (o + 2) i v) b tk h0) Q) : xV l G fr wd M pc L (.int v :: .int (nI i) :: .ref (z + (o + 2)) :: st) (cset z C b tk h0) Q :=
  xc_ast hd (hs.P2 ho).2.2.2.1 (hs.P2 ho).2.2.2.2.2 (by have := isP_lt ho; omega) (isP_lt ho).2.2 hi kq
theorem xc_aldN {c i : Nat} (hd : decode (xMc M) pc = .ok (.iaload, 1)) (hs : CSh h0 z) (hc : c < 6) (hi : i < 6) (kq : xV l G fr wd M (pc + 1) L (.int (C (55 + 3 * c) i) :: st) (cset z C b tk h0) Q) : xV l G fr wd M pc L (.int (nI i) :: .ref (z + (55 + 3 * c)) :: st) (cset z C b tk h0) Q :=
  xc_ald hd (hs.C2 hc).2.1 (hs.C2 hc).2.2 (by omega) (by decide) hi kq
theorem xc_astN {c i : Nat} {v : Int32} (hd : decode (xMc M) pc = .ok (.iastore, 1)) (hs : CSh h0 z) (hc : c < 6) (hi : i < 6) (kq : xV l G fr wd M (pc + 1) L st (cset z (xu C (55 + 3 * c) i v) b tk h0) Q) : xV l G fr wd M pc L (.int v :: .int (nI i) :: .ref (z + (55 + 3 * c)) :: st) (cset z C b tk h0) Q :=
  xc_ast hd (hs.C2 hc).2.1 (hs.C2 hc).2.2 (by omega) (by decide) hi kq
theorem Prs_of (hs : CSh h0 z) {o cap : Nat} (ho : isP o cap) : Prs (cset z C b tk h0) (z + o) (z + (o + 1)) (z + (o + 2)) cap := by
  have h1 := hs.P2 ho
  have h2 := isP_lt ho
  exact ⟨hs.P ho, (cset_P (by omega) (by omega)).trans h1.1, (cset_P (by omega) (by omega)).trans h1.2.1, h1.2.2.1, h1.2.2.2.1, h1.2.2.2.2.1, h1.2.2.2.2.2, by omega, by omega, by omega, h2.2.2⟩
end XCBASE

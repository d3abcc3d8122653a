/-! THE REFERENCE'S CELLS: y the object, S 0 j its scalars, S k j (k = 1 .. 15) its arrays -/
def mlen : Nat → Nat
  | 1 => 6 | 2 => 36 | 3 => 4 | 4 => 4 | 5 => 4 | 6 => 4 | 7 => 4 | 8 => 11 | 9 => 11 | 10 => 300 | 11 => 300 | 12 => 6 | 13 => 300 | 14 => 300 | 15 => 3 | _ => 0
def mkd : Nat → Nat
  | 7 => 101 | 8 => 101 | _ => 100
def mfi (k : Nat) : Nat := if k ≤ 12 then k - 1 else k + 15
def MSh (h : xH) (y : Nat) : Prop := xT h y = 6 + 1 ∧ ∀ k, (1 ≤ k ∧ k < 16) → xT h (y + k) = mkd k ∧ xN h (y + k) = mlen k ∧ xP h y (mfi k) = some (y + k)
abbrev mset (y : Nat) (S : Nat → Nat → Int32) (h : xH) : xH := (h.1, h.2.1, (fun a j => if y ≤ a ∧ a < y + 16 then S (a - y) j else h.2.2.1 a j), h.2.2.2)
theorem mset_I {y k j : Nat} {S : Nat → Nat → Int32} {h : xH} (hk : k < 16) : xI (mset y S h) (y + k) j = S k j := by
  show (if y ≤ y + k ∧ y + k < y + 16 then S (y + k - y) j else _) = _
  rw [if_pos ⟨by omega, by omega⟩, Nat.add_sub_cancel_left]
theorem mset_w {y k j : Nat} {S : Nat → Nat → Int32} {h : xH} {v : Int32} (hk : k < 16) : xwI (mset y S h) (y + k) j v = mset y (xu S k j v) h := by
  show (h.1, h.2.1, xu _ (y + k) j v, h.2.2.2) = (h.1, h.2.1, _, h.2.2.2)
  congr 3
  funext a i
  show (if a = y + k ∧ i = j then v else if y ≤ a ∧ a < y + 16 then S (a - y) i else _) = if y ≤ a ∧ a < y + 16 then (if a - y = k ∧ i = j then v else S (a - y) i) else _
  by_cases h1 : y ≤ a ∧ a < y + 16
  · rw [if_pos h1, if_pos h1]
    by_cases h2 : a = y + k ∧ i = j
    · rw [if_pos h2, if_pos ⟨by omega, h2.2⟩]
    · rw [if_neg h2, if_neg (by omega)]
  · rw [if_neg h1, if_neg h1, if_neg (by omega)]
theorem nI_mul (a b : Nat) : nI a * nI b = nI (a * b) := by
  unfold nI; rw [Int32.ofNat_mul]
theorem nI_sub {a b : Nat} (h : b ≤ a) : nI a - nI b = nI (a - b) := by
  unfold nI; rw [Int32.ofNat_sub _ _ h]
theorem nI_inj {a b : Nat} (ha : a < 2 ^ 31) (hb : b < 2 ^ 31) : nI a = nI b ↔ a = b := by
  constructor
  · intro q
    have h1 := nI_toInt ha
    rw [q, nI_toInt hb] at h1
    omega
  · intro q; rw [q]
theorem nI_lti {a b : Nat} (ha : a < 2 ^ 31) (hb : b < 2 ^ 31) : nI a < nI b ↔ a < b := by
  rw [Int32.lt_iff_toInt_lt, nI_toInt ha, nI_toInt hb]; omega
theorem nI_lei {a b : Nat} (ha : a < 2 ^ 31) (hb : b < 2 ^ 31) : nI a ≤ nI b ↔ a ≤ b := by
  rw [Int32.le_iff_toInt_le, nI_toInt ha, nI_toInt hb]; omega
theorem nI_div {a b : Nat} (ha : a < 2 ^ 31) (hb : b < 2 ^ 31) : nI a / nI b = nI (a / b) := by
  apply Int32.toInt_inj.mp
  rw [Int32.toInt_div, nI_toInt ha, nI_toInt hb, nI_toInt (Nat.lt_of_le_of_lt (Nat.div_le_self a b) ha)]
  have h1 : (a : Int).tdiv (b : Int) = ((a / b : Nat) : Int) := Int.ofNat_tdiv a b
  rw [h1]
  have h2 : a / b < 2 ^ 31 := Nat.lt_of_le_of_lt (Nat.div_le_self a b) ha
  have h3 : (0 : Int) ≤ ((a / b : Nat) : Int) := Int.natCast_nonneg _
  generalize ((a / b : Nat)) = d at h2 h3
  rw [Int.bmod_eq_of_le_mul_two (by omega) (by omega)]
theorem nI_rem {a b : Nat} (ha : a < 2 ^ 31) (hb : b < 2 ^ 31) : nI a - nI a / nI b * nI b = nI (a % b) := by
  rw [nI_div ha hb, nI_mul, nI_sub (Nat.div_mul_le_self a b)]
  congr 1
  have := Nat.div_add_mod a b
  rw [Nat.mul_comm] at this
  omega
/-- the values of a list of locals, in another list -/
def xinL : List (Nat × Value) → List (Nat × Value) → Prop
  | [], _ => True
  | q :: R, L => xlk L q.1 = some q.2 ∧ xinL R L
theorem xinL_has {L' L : List (Nat × Value)} {ls : Array Slot} {n : Nat} (hl : lv_has ls n L) (h : xinL L' L) : lv_has ls n L' := by
  refine ⟨hl.1, hl.2.1, ?_⟩
  induction L' with
  | nil => intro q hq; cases hq
  | cons a R ih =>
    intro q hq
    rcases List.mem_cons.mp hq with h1 | h1
    · rw [h1]; exact xlk_has hl h.1
    · exact ih h.2 q h1
theorem xV.loc {l : Launch} {G : xG} {fr wd : Nat} {M : xM} {pc : Nat} {L L' : List (Nat × Value)} {st : List Value} {h : xH} {Q : xR → xH → Prop} (k : xV l G fr wd M pc L' st h Q) (hL : xinL L' L) : xV l G fr wd M pc L st h Q := by
  obtain ⟨r, h', q, x1, x2, x⟩ := k
  exact ⟨r, h', q, x1, x2, fun p e R s m args below meth c H locs cells slots ls C hR hl hf h1 h2 h3 h4 => x p e R s m args below meth c H locs cells slots ls C hR (xinL_has hl hL) hf h1 h2 h3 h4⟩
section XMODEL
variable {l : Launch} {G : xG} {fr wd : Nat} {M : xM} {pc : Nat} {L : List (Nat × Value)} {st : List Value} {h0 : xH} {Q : xR → xH → Prop} {y : Nat} {S : Nat → Nat → Int32}
theorem x_incN {h : xH} {i n : Nat} (hd : decode (xMc M) pc = .ok (.iinc i 1, 3)) (hx : xlk L i = some (.int (nI n))) (hn : i < xMl M) (kq : xV l G fr wd M (pc + 3) (xst L i (.int (nI (n + 1)))) st h Q) : xV l G fr wd M pc L st h Q := x_inc hd hx hn (by rw [← nI_succ]; exact kq)
theorem x_zast {h : xH} {t a : Nat} {i x : Int32} (hd : decode (xMc M) pc = .ok (.bastore, 1)) (hT : xT h a = t) (ht : 100 ≤ t ∧ t < 200) (hty : xat t = some .boolean) (hi : vp_in i (xN h a)) (hx0 : narrow .boolean (.int x) = .int x)
    (kq : xV l G fr wd M (pc + 1) L st (xwI h a i.toNatClampNeg x) Q) : xV l G fr wd M pc L (.int x :: .int i :: .ref a :: st) h Q := by
  refine xgoW kq rfl (fun p e R s m args below meth c H locs cells slots ls Qw Cx hR hl kk => ?_)
  have q1 := xarr hR hT ht.1 ht.2 hty
  have hz : xGz G ≤ a := (hR.2.2.2 a (by rw [hT]; omega)).1
  obtain ⟨hx, hb, hml, hr, hlk, hown, hmn, hKn, -⟩ := Cx
  refine W.zast hx hb q1 ((hKn.2.1 t _ hty).1 _ _) (fun q => by cases q) (by rw [arrV_size]; exact hi) rfl rfl hd fun H2 g1 g2 g3 => kk H2 a _ ?_ hz
  rw [hx0] at g1
  exact xarrW (v := .int x) hR hT ht.1 ht.2 hty rfl rfl (fun ty b i hb => xsv_wI_a ty hb) (fun ty b i hb => xsv_wI_j ty hb) (congrArg Value.int (xu_s _ _ _ _)) g1 g2 g3
theorem xm_get {ix j : Nat} {C : vw_C} (hd : decode (xMc M) pc = .ok (.getfield ix, 3)) (hs : MSh h0 y) (hc : xcls[6]? = some C) (hj : j < C.2.2) (hw : Cond.fieldLink (xMn M).cls ix (C.2.1 j).1 (C.2.1 j).2.1 (C.2.1 j).2.2.1 ∈ xTT) (hv : ∀ (h : xH) (a : Nat), xsv (xft 6 j) h a j = .int (xI h a j))
    (kq : xV l G fr wd M (pc + 3) L (.int (S 0 j) :: st) (mset y S h0) Q) : xV l G fr wd M pc L (.ref y :: st) (mset y S h0) Q :=
  x_getE (k := 6) hd hs.1 hc hj hw (hv _ _) (mset_I (k := 0) (by decide)) kq
theorem xm_ref {ix j k : Nat} {C : vw_C} (hd : decode (xMc M) pc = .ok (.getfield ix, 3)) (hs : MSh h0 y) (hk : 1 ≤ k ∧ k < 16) (hm : mfi k = j) (hc : xcls[6]? = some C) (hj : j < C.2.2) (hw : Cond.fieldLink (xMn M).cls ix (C.2.1 j).1 (C.2.1 j).2.1 (C.2.1 j).2.2.1 ∈ xTT) (hv : xsv (xft 6 j) (mset y S h0) y j = va_rf (xP (mset y S h0) y j))
    (kq : xV l G fr wd M (pc + 3) L (.ref (y + k) :: st) (mset y S h0) Q) : xV l G fr wd M pc L (.ref y :: st) (mset y S h0) Q :=
  x_getR (k := 6) (b := y + k) hd hs.1 hc hj hw hv (by rw [← hm]; exact (hs.2 k hk).2.2) kq
theorem xm_put {ix j : Nat} {C : vw_C} {x : Int32} (hd : decode (xMc M) pc = .ok (.putfield ix, 3)) (hs : MSh h0 y) (hc : xcls[6]? = some C) (hj : j < C.2.2) (hw : Cond.fieldLink (xMn M).cls ix (C.2.1 j).1 (C.2.1 j).2.1 (C.2.1 j).2.2.1 ∈ xTT)
    (hfin : (C.2.1 j).2.2.2 = false ∨ ((C.2.1 j).2.2.2 = true ∧ (xMn M).name = "<init>" ∧ (C.2.1 j).1 = (xMn M).cls)) (hn : narrow (xft 6 j) (.int x) = .int x) (hfit : fits (xft 6 j) (.int x) = true) (hv : ∀ (h : xH) (a : Nat), xsv (xft 6 j) h a j = .int (xI h a j))
    (kq : xV l G fr wd M (pc + 3) L st (mset y (xu S 0 j x) h0) Q) : xV l G fr wd M pc L (.int x :: .ref y :: st) (mset y S h0) Q :=
  x_putI (k := 6) hd hs.1 hc hj hw hfin hn hfit (hv _ _) (by have := mset_w (y := y) (k := 0) (j := j) (S := S) (h := h0) (v := x) (by decide); rw [Nat.add_zero] at this; rw [this]; exact kq)
theorem xm_ald {k i : Nat} (hd : decode (xMc M) pc = .ok (.iaload, 1)) (hs : MSh h0 y) (hk : 1 ≤ k ∧ k < 16) (hkd : mkd k = 100) (hi : i < mlen k)
    (kq : xV l G fr wd M (pc + 1) L (.int (S k i) :: st) (mset y S h0) Q) : xV l G fr wd M pc L (.int (nI i) :: .ref (y + k) :: st) (mset y S h0) Q :=
  x_ialdN (cap := mlen k) hd ((hs.2 k hk).1.trans hkd) (hs.2 k hk).2.1 hi (by unfold mlen; split <;> decide) (mset_I hk.2) kq
theorem xm_zld {k i : Nat} (hd : decode (xMc M) pc = .ok (.baload, 1)) (hs : MSh h0 y) (hk : 1 ≤ k ∧ k < 16) (hkd : mkd k = 101) (hi : i < mlen k)
    (kq : xV l G fr wd M (pc + 1) L (.int (S k i) :: st) (mset y S h0) Q) : xV l G fr wd M pc L (.int (nI i) :: .ref (y + k) :: st) (mset y S h0) Q :=
  x_zaldN (cap := mlen k) hd ((hs.2 k hk).1.trans hkd) (hs.2 k hk).2.1 hi (by unfold mlen; split <;> decide) (mset_I hk.2) kq
theorem xm_ast {k i : Nat} {v : Int32} (hd : decode (xMc M) pc = .ok (.iastore, 1)) (hs : MSh h0 y) (hk : 1 ≤ k ∧ k < 16) (hkd : mkd k = 100) (hi : i < mlen k)
    (kq : xV l G fr wd M (pc + 1) L st (mset y (xu S k i v) h0) Q) : xV l G fr wd M pc L (.int v :: .int (nI i) :: .ref (y + k) :: st) (mset y S h0) Q :=
  x_iastN (cap := mlen k) hd ((hs.2 k hk).1.trans hkd) (hs.2 k hk).2.1 hi (by unfold mlen; split <;> decide) (by rw [mset_w hk.2]; exact kq)
theorem xm_zst {k i : Nat} {v : Int32} (hd : decode (xMc M) pc = .ok (.bastore, 1)) (hs : MSh h0 y) (hk : 1 ≤ k ∧ k < 16) (hkd : mkd k = 101) (hi : i < mlen k) (hx0 : narrow .boolean (.int v) = .int v)
    (kq : xV l G fr wd M (pc + 1) L st (mset y (xu S k i v) h0) Q) : xV l G fr wd M pc L (.int v :: .int (nI i) :: .ref (y + k) :: st) (mset y S h0) Q := by
  have hc : mlen k < 2 ^ 31 := by unfold mlen; split <;> decide
  refine x_zast (t := 101) hd ((hs.2 k hk).1.trans hkd) (by decide) rfl (by rw [show xN (mset y S h0) (y + k) = mlen k from (hs.2 k hk).2.1]; exact vp_in_nI hi hc) hx0 ?_
  rw [nI_clamp (Nat.lt_trans hi hc), mset_w hk.2]
  exact kq
end XMODEL

/-! THE CONSTRUCTORS. s = (how many cells, kinds, lengths, references, ints) of the cells from z on -/
abbrev SG : Type := Nat × (Nat → Nat) × (Nat → Nat) × (Nat → Nat → Option Nat) × (Nat → Nat → Int32)
abbrev sNew (s : SG) (t n : Nat) : SG := (s.1 + 1, xr s.2.1 s.1 t, xr s.2.2.1 s.1 n, xr s.2.2.2.1 s.1 (fun _ => none), xr s.2.2.2.2 s.1 (fun _ => 0))
abbrev sP (s : SG) (k j : Nat) (m : Option Nat) : SG := (s.1, s.2.1, s.2.2.1, xu s.2.2.2.1 k j m, s.2.2.2.2)
abbrev sI (s : SG) (k j : Nat) (v : Int32) : SG := (s.1, s.2.1, s.2.2.1, s.2.2.2.1, xu s.2.2.2.2 k j v)
def CB (g h : xH) (z : Nat) (s : SG) (sl : Nat) : Prop := xnx h = z + s.1 ∧ xsl h = xsl g + sl ∧ (∀ k, k < s.1 → xT h (z + k) = s.2.1 k ∧ xN h (z + k) = s.2.2.1 k ∧ (∀ j, xP h (z + k) j = (s.2.2.2.1 k j).map (fun m => z + m)) ∧ ∀ j, xI h (z + k) j = s.2.2.2.2 k j) ∧ ∀ a, a < z → xT h a = xT g a ∧ xN h a = xN g a ∧ xI h a = xI g a ∧ xP h a = xP g a ∧ xJ h a = xJ g a
theorem CB.new {g h : xH} {z sl : Nat} {s : SG} (b : CB g h z s sl) (t n m : Nat) : CB g (xnw h t n m) z (sNew s t n) (sl + m) := by
  obtain ⟨b1, b2, b3, b4⟩ := b
  refine ⟨?_, ?_, fun k hk => ?_, fun a ha => ?_⟩
  · show xnx h + 1 = z + (s.1 + 1); omega
  · show xsl h + m = xsl g + (sl + m); omega
  · have hk' : k < s.1 + 1 := hk
    by_cases e : k = s.1
    · subst e
      rw [← b1]
      refine ⟨?_, ?_, fun j => ?_, fun j => ?_⟩
      · show xr (xT h) (xnx h) t (xnx h) = xr s.2.1 s.1 t s.1; rw [xr_s, xr_s]
      · show xr (xN h) (xnx h) n (xnx h) = xr s.2.2.1 s.1 n s.1; rw [xr_s, xr_s]
      · show xr (xP h) (xnx h) (fun _ => none) (xnx h) j = (xr s.2.2.2.1 s.1 (fun _ => none) s.1 j).map _; rw [xr_s, xr_s]; rfl
      · show xr (xI h) (xnx h) (fun _ => 0) (xnx h) j = xr s.2.2.2.2 s.1 (fun _ => 0) s.1 j; rw [xr_s, xr_s]
    · obtain ⟨c1, c2, c3, c4⟩ := b3 k (by omega)
      have n1 : z + k ≠ xnx h := by omega
      refine ⟨?_, ?_, fun j => ?_, fun j => ?_⟩
      · show xr (xT h) (xnx h) t (z + k) = xr s.2.1 s.1 t k; rw [xr_n _ _ n1, xr_n _ _ e]; exact c1
      · show xr (xN h) (xnx h) n (z + k) = xr s.2.2.1 s.1 n k; rw [xr_n _ _ n1, xr_n _ _ e]; exact c2
      · show xr (xP h) (xnx h) (fun _ => none) (z + k) j = (xr s.2.2.2.1 s.1 (fun _ => none) k j).map _; rw [xr_n _ _ n1, xr_n _ _ e]; exact c3 j
      · show xr (xI h) (xnx h) (fun _ => 0) (z + k) j = xr s.2.2.2.2 s.1 (fun _ => 0) k j; rw [xr_n _ _ n1, xr_n _ _ e]; exact c4 j
  · obtain ⟨c1, c2, c3, c4, c5⟩ := b4 a ha
    have n1 : a ≠ xnx h := by omega
    exact ⟨(xr_n _ _ n1).trans c1, (xr_n _ _ n1).trans c2, (xr_n _ _ n1).trans c3, (xr_n _ _ n1).trans c4, (xr_n _ _ n1).trans c5⟩
theorem CB.wP {g h : xH} {z sl : Nat} {s : SG} (b : CB g h z s sl) (k j : Nat) (m : Option Nat) : CB g (xwP h (z + k) j (m.map (fun m => z + m))) z (sP s k j m) sl := by
  obtain ⟨b1, b2, b3, b4⟩ := b
  refine ⟨b1, b2, fun i hi => ?_, fun a ha => ?_⟩
  · obtain ⟨c1, c2, c3, c4⟩ := b3 i hi
    refine ⟨c1, c2, fun i2 => ?_, c4⟩
    show (if z + i = z + k ∧ i2 = j then m.map (fun m => z + m) else xP h (z + i) i2) = (if i = k ∧ i2 = j then m else s.2.2.2.1 i i2).map (fun m => z + m)
    by_cases e : i = k ∧ i2 = j
    · rw [if_pos e, if_pos ⟨by omega, e.2⟩]
    · rw [if_neg e, if_neg (by omega)]; exact c3 i2
  · obtain ⟨c1, c2, c3, c4, c5⟩ := b4 a ha
    exact ⟨c1, c2, c3, by funext i; exact (xu_a _ _ _ _ (by omega)).trans (congrFun c4 i), c5⟩
theorem CB.wI {g h : xH} {z sl : Nat} {s : SG} (b : CB g h z s sl) (k j : Nat) (v : Int32) : CB g (xwI h (z + k) j v) z (sI s k j v) sl := by
  obtain ⟨b1, b2, b3, b4⟩ := b
  refine ⟨b1, b2, fun i hi => ?_, fun a ha => ?_⟩
  · obtain ⟨c1, c2, c3, c4⟩ := b3 i hi
    refine ⟨c1, c2, c3, fun i2 => ?_⟩
    show (if z + i = z + k ∧ i2 = j then v else xI h (z + i) i2) = if i = k ∧ i2 = j then v else s.2.2.2.2 i i2
    by_cases e : i = k ∧ i2 = j
    · rw [if_pos e, if_pos ⟨by omega, e.2⟩]
    · rw [if_neg e, if_neg (by omega)]; exact c4 i2
  · obtain ⟨c1, c2, c3, c4, c5⟩ := b4 a ha
    exact ⟨c1, c2, by funext i; exact (xu_a _ _ _ _ (by omega)).trans (congrFun c3 i), c4, c5⟩
section XC14
variable {l : Launch} {G : xG} {fr wd : Nat} {M : xM} {pc : Nat} {L : List (Nat × Value)} {st : List Value} {g h : xH} {Q : xR → xH → Prop} {z sl : Nat} {s : SG}
theorem b_putI (b : CB g h z s sl) {ix k j kc : Nat} {v : Int32} {Cc : vw_C} (hk : k < s.1) (hT : s.2.1 k = kc + 1) (hd : decode (xMc M) pc = .ok (.putfield ix, 3)) (hc : xcls[kc]? = some Cc) (hj : j < Cc.2.2) (hw : Cond.fieldLink (xMn M).cls ix (Cc.2.1 j).1 (Cc.2.1 j).2.1 (Cc.2.1 j).2.2.1 ∈ xTT)
    (hfin : (Cc.2.1 j).2.2.2 = false ∨ ((Cc.2.1 j).2.2.2 = true ∧ (xMn M).name = "<init>" ∧ (Cc.2.1 j).1 = (xMn M).cls)) (hn : narrow (xft kc j) (.int v) = .int v) (hfit : fits (xft kc j) (.int v) = true) (hv : ∀ (h : xH) (a : Nat), xsv (xft kc j) h a j = .int (xI h a j))
    (kq : ∀ h', CB g h' z (sI s k j v) sl → xV l G fr wd M (pc + 3) L st h' Q) : xV l G fr wd M pc L (.int v :: .ref (z + k) :: st) h Q :=
  x_putI (k := kc) hd ((b.2.2.1 k hk).1.trans hT) hc hj hw hfin hn hfit (hv _ _) (kq _ (b.wI k j v))
theorem b_putP (b : CB g h z s sl) {ix k j kc m : Nat} {Cc : vw_C} (hk : k < s.1) (hT : s.2.1 k = kc + 1) (hd : decode (xMc M) pc = .ok (.putfield ix, 3)) (hc : xcls[kc]? = some Cc) (hj : j < Cc.2.2) (hw : Cond.fieldLink (xMn M).cls ix (Cc.2.1 j).1 (Cc.2.1 j).2.1 (Cc.2.1 j).2.2.1 ∈ xTT)
    (hfin : (Cc.2.1 j).2.2.2 = false ∨ ((Cc.2.1 j).2.2.2 = true ∧ (xMn M).name = "<init>" ∧ (Cc.2.1 j).1 = (xMn M).cls)) (hn : ∀ a, narrow (xft kc j) (.ref a) = .ref a) (hfit : ∀ a, fits (xft kc j) (.ref a) = true) (hv : ∀ (h : xH) (a : Nat), xsv (xft kc j) h a j = va_rf (xP h a j))
    (kq : ∀ h', CB g h' z (sP s k j (some m)) sl → xV l G fr wd M (pc + 3) L st h' Q) : xV l G fr wd M pc L (.ref (z + m) :: .ref (z + k) :: st) h Q :=
  x_putP (x := some (z + m)) (k := kc) hd ((b.2.2.1 k hk).1.trans hT) hc hj hw hfin (hn _) (hfit _) (hv _ _) (kq _ (b.wP k j (some m)))
theorem b_putN (b : CB g h z s sl) {ix k j kc : Nat} {Cc : vw_C} (hk : k < s.1) (hT : s.2.1 k = kc + 1) (hd : decode (xMc M) pc = .ok (.putfield ix, 3)) (hc : xcls[kc]? = some Cc) (hj : j < Cc.2.2) (hw : Cond.fieldLink (xMn M).cls ix (Cc.2.1 j).1 (Cc.2.1 j).2.1 (Cc.2.1 j).2.2.1 ∈ xTT)
    (hfin : (Cc.2.1 j).2.2.2 = false ∨ ((Cc.2.1 j).2.2.2 = true ∧ (xMn M).name = "<init>" ∧ (Cc.2.1 j).1 = (xMn M).cls)) (hn : narrow (xft kc j) .null = .null) (hfit : fits (xft kc j) .null = true) (hv : ∀ (h : xH) (a : Nat), xsv (xft kc j) h a j = va_rf (xP h a j))
    (kq : ∀ h', CB g h' z (sP s k j none) sl → xV l G fr wd M (pc + 3) L st h' Q) : xV l G fr wd M pc L (.null :: .ref (z + k) :: st) h Q :=
  x_putP (x := none) (k := kc) hd ((b.2.2.1 k hk).1.trans hT) hc hj hw hfin hn hfit (hv _ _) (kq _ (b.wP k j none))
theorem b_getR (b : CB g h z s sl) {ix k j kc m : Nat} {Cc : vw_C} (hk : k < s.1) (hT : s.2.1 k = kc + 1) (hp : s.2.2.2.1 k j = some m) (hd : decode (xMc M) pc = .ok (.getfield ix, 3)) (hc : xcls[kc]? = some Cc) (hj : j < Cc.2.2) (hw : Cond.fieldLink (xMn M).cls ix (Cc.2.1 j).1 (Cc.2.1 j).2.1 (Cc.2.1 j).2.2.1 ∈ xTT) (hv : ∀ (h : xH) (a : Nat), xsv (xft kc j) h a j = va_rf (xP h a j))
    (kq : xV l G fr wd M (pc + 3) L (.ref (z + m) :: st) h Q) : xV l G fr wd M pc L (.ref (z + k) :: st) h Q :=
  x_getR (k := kc) hd ((b.2.2.1 k hk).1.trans hT) hc hj hw (hv _ _) (((b.2.2.1 k hk).2.2.1 j).trans (by rw [hp]; rfl)) kq
theorem xdfA {h : xH} {ty : FieldType} {t N n : Nat} (j : Nat) (hty : ty = .int ∨ ty = .boolean ∨ (∃ q, ty = .object q) ∨ ∃ q, ty = .array q) : defaultValue ty = xsv ty (xnw h t N n) (xnx h) j := by
  rcases hty with rfl | rfl | ⟨q, rfl⟩ | ⟨q, rfl⟩
  · exact xdfI j
  · exact xdfZ j
  · show Value.null = va_rf (xr (xP h) (xnx h) (fun _ => none) (xnx h) j); rw [xr_s]; rfl
  · show Value.null = va_rf (xr (xP h) (xnx h) (fun _ => none) (xnx h) j); rw [xr_s]; rfl
theorem b_new (b : CB g h z s sl) {ix kc n : Nat} {Cc : vw_C} (hd : decode (xMc M) pc = .ok (.new ix, 3)) (hc : xcls[kc]? = some Cc) (h1 : Cond.classLink (xMn M).cls ix Cc.1 ∈ xTT) (h2 : Cond.instantiable Cc.1 Cc.2.2 ∈ xTT) (h3 : Cond.initialized Cc.1 ∈ xTT) (hn : Cc.2.2 = n) (hdf : ∀ j, j < n → xft kc j = .int ∨ xft kc j = .boolean ∨ (∃ q, xft kc j = .object q) ∨ ∃ q, xft kc j = .array q)
    (kq : ∀ h', CB g h' z (sNew s (kc + 1) 0) (sl + n) → xV l G fr wd M (pc + 3) L (.ref (z + s.1) :: st) h' Q) : xV l G fr wd M pc L st h Q := by
  subst hn
  refine x_new hd hc h1 h2 h3 (fun j hj => xdfA j (hdf j hj)) ?_
  rw [show Value.ref (xnx h) = .ref (z + s.1) by rw [b.1]]
  exact kq _ (b.new _ _ _)
theorem b_newm (b : CB g h z s sl) {ix kc n m : Nat} {Cc : vw_C} (em : s.1 = m) (hd : decode (xMc M) pc = .ok (.new ix, 3)) (hc : xcls[kc]? = some Cc) (h1 : Cond.classLink (xMn M).cls ix Cc.1 ∈ xTT) (h2 : Cond.instantiable Cc.1 Cc.2.2 ∈ xTT) (h3 : Cond.initialized Cc.1 ∈ xTT) (hn : Cc.2.2 = n) (hdf : ∀ j, j < n → xft kc j = .int ∨ xft kc j = .boolean ∨ (∃ q, xft kc j = .object q) ∨ ∃ q, xft kc j = .array q)
    (kq : ∀ h', CB g h' z (sNew s (kc + 1) 0) (sl + n) → xV l G fr wd M (pc + 3) L (.ref (z + m) :: st) h' Q) : xV l G fr wd M pc L st h Q := by
  subst em
  exact b_new b hd hc h1 h2 h3 hn hdf kq
theorem b_newa (b : CB g h z s sl) {N : Nat} (hd : decode (xMc M) pc = .ok (.newarray .int, 2)) (hN : N ≤ 1000)
    (kq : ∀ h', CB g h' z (sNew s 100 N) (sl + N) → xV l G fr wd M (pc + 2) L (.ref (z + s.1) :: st) h' Q) : xV l G fr wd M pc L (.int (nI N) :: st) h Q := by
  refine x_newa (t := 100) (ty := .int) (N := N) hd (by decide) rfl rfl (fun _ _ => rfl) wa_int (Int32.not_lt.mpr (nI_pos' (by omega))) (nI_clamp (by omega)) (by show N * 4 ≤ _; omega) xdfI ?_
  rw [show Value.ref (xnx h) = .ref (z + s.1) by rw [b.1]]
  exact kq _ (b.new _ _ _)
theorem b_anew (b : CB g h z s sl) {N t ix : Nat} {C : String} (hd : decode (xMc M) pc = .ok (.anewarray ix, 3)) (ht : 100 ≤ t ∧ t < 200) (hty : xat t = some (.object C)) (h1 : Cond.classLink (xMn M).cls ix C ∈ xTT) (h2 : Cond.arrayOver (.object C) ∈ xTT) (hN : N ≤ 1000)
    (kq : ∀ h', CB g h' z (sNew s t N) (sl + N) → xV l G fr wd M (pc + 3) L (.ref (z + s.1) :: st) h' Q) : xV l G fr wd M pc L (.int (nI N) :: st) h Q := by
  refine x_anew (t := t) (N := N) hd ht hty h1 h2 (Int32.not_lt.mpr (nI_pos' (by omega))) (nI_clamp (by omega)) (by omega) ?_
  rw [show Value.ref (xnx h) = .ref (z + s.1) by rw [b.1]]
  exact kq _ (b.new _ _ _)
theorem b_aast (b : CB g h z s sl) {t a v kc i N : Nat} {Cc : vw_C} (ha : a < s.1) (hv : v < s.1) (hTa : s.2.1 a = t) (hNa : s.2.2.1 a = N) (hTv : s.2.1 v = kc + 1) (hd : decode (xMc M) pc = .ok (.aastore, 1)) (ht : 100 ≤ t ∧ t < 200) (hc : xcls[kc]? = some Cc) (hty : xat t = some (.object Cc.1)) (hi : i < N) (hN : N ≤ 1000)
    (kq : ∀ h', CB g h' z (sP s a i (some v)) sl → xV l G fr wd M (pc + 1) L st h' Q) : xV l G fr wd M pc L (.ref (z + v) :: .int (nI i) :: .ref (z + a) :: st) h Q := by
  refine x_aast (t := t) (k := kc) hd ((b.2.2.1 a ha).1.trans hTa) ht hc hty ((b.2.2.1 v hv).1.trans hTv) (by rw [(b.2.2.1 a ha).2.1, hNa]; exact vp_in_nI hi (by omega)) ?_
  rw [nI_clamp (by omega)]
  exact kq _ (b.wP a i (some v))
abbrev kI (s : SG) (k : Nat) : SG := sI (sI (sP (sI (sI s k 0 (nI 1)) k 1 (nI 1)) k 2 none) k 3 (nI 0)) k 4 (nI 0)
theorem c_K_init {k : Nat} (b : CB g h z s sl) (hk : k < s.1) (hT : s.2.1 k = 5 + 1) : xVM l G 1 20 m_K_init [.ref (z + k)] h (fun r h' => r = .inl none ∧ CB g h' z (kI s k) sl) := by
  unfold xVM
  first | refine x_aload_n d_K_init_0 rfl ?_ | refine x_aloadq_n d_K_init_0 rfl ?_
  refine x_objInit d_K_init_1 wl_K_3 wm_O_init wc_O_init (by decide) (by decide) (by decide) ?_
  first | refine x_aload_n d_K_init_4 rfl ?_ | refine x_aloadq_n d_K_init_4 rfl ?_
  refine x_iconst (v := nI 1) d_K_init_5 (by decide) ?_
  refine b_putI (kc := 5) (j := 0) b hk hT d_K_init_6 rfl (by decide) wf_K_9 (Or.inl rfl) rfl rfl (fun _ _ => rfl) (fun h1 b1 => ?_)
  first | refine x_aload_n d_K_init_9 rfl ?_ | refine x_aloadq_n d_K_init_9 rfl ?_
  refine x_iconst (v := nI 1) d_K_init_10 (by decide) ?_
  refine b_putI (kc := 5) (j := 1) b1 hk hT d_K_init_11 rfl (by decide) wf_K_15 (Or.inl rfl) rfl rfl (fun _ _ => rfl) (fun h2 b2 => ?_)
  first | refine x_aload_n d_K_init_14 rfl ?_ | refine x_aloadq_n d_K_init_14 rfl ?_
  refine x_null d_K_init_15 ?_
  refine b_putN (kc := 5) (j := 2) b2 hk hT d_K_init_16 rfl (by decide) wf_K_19 (Or.inl rfl) rfl rfl (fun _ _ => rfl) (fun h3 b3 => ?_)
  first | refine x_aload_n d_K_init_19 rfl ?_ | refine x_aloadq_n d_K_init_19 rfl ?_
  refine x_iconst (v := nI 0) d_K_init_20 (by decide) ?_
  refine b_putI (kc := 5) (j := 3) b3 hk hT d_K_init_21 rfl (by decide) wf_K_23 (Or.inl rfl) rfl rfl (fun _ _ => rfl) (fun h4 b4 => ?_)
  first | refine x_aload_n d_K_init_24 rfl ?_ | refine x_aloadq_n d_K_init_24 rfl ?_
  refine x_iconst (v := nI 0) d_K_init_25 (by decide) ?_
  refine b_putI (kc := 5) (j := 4) b4 hk hT d_K_init_26 rfl (by decide) wf_K_26 (Or.inl rfl) rfl rfl (fun _ _ => rfl) (fun h5 b5 => ?_)
  refine x_vret d_K_init_29 rfl ?_
  exact ⟨rfl, b5⟩
abbrev tI (s : SG) (k : Nat) (mp n : Int32) : SG := sI (sI (sI (sI (sI s k 2 (nI 0)) k 3 (nI 0)) k 4 (-1)) k 0 mp) k 1 n
theorem c_T_init {k : Nat} {mp n : Int32} (b : CB g h z s sl) (hk : k < s.1) (hT : s.2.1 k = 4 + 1) (hb : narrow .boolean (.int mp) = .int mp) (hf : fits .boolean (.int mp) = true) : xVM l G 1 20 m_T_init [.ref (z + k), .int mp, .int n] h (fun r h' => r = .inl none ∧ CB g h' z (tI s k mp n) sl) := by
  unfold xVM
  first | refine x_aload_n d_T_init_0 rfl ?_ | refine x_aloadq_n d_T_init_0 rfl ?_
  refine x_objInit d_T_init_1 wl_T_3 wm_O_init wc_O_init (by decide) (by decide) (by decide) ?_
  first | refine x_aload_n d_T_init_4 rfl ?_ | refine x_aloadq_n d_T_init_4 rfl ?_
  refine x_iconst (v := nI 0) d_T_init_5 (by decide) ?_
  refine b_putI (kc := 4) (j := 2) b hk hT d_T_init_6 rfl (by decide) wf_T_9 (Or.inl rfl) rfl rfl (fun _ _ => rfl) (fun h1 b1 => ?_)
  first | refine x_aload_n d_T_init_9 rfl ?_ | refine x_aloadq_n d_T_init_9 rfl ?_
  refine x_iconst (v := nI 0) d_T_init_10 (by decide) ?_
  refine b_putI (kc := 4) (j := 3) b1 hk hT d_T_init_11 rfl (by decide) wf_T_15 (Or.inl rfl) rfl rfl (fun _ _ => rfl) (fun h2 b2 => ?_)
  first | refine x_aload_n d_T_init_14 rfl ?_ | refine x_aloadq_n d_T_init_14 rfl ?_
  refine x_iconst (v := (-1)) d_T_init_15 (by decide) ?_
  refine b_putI (kc := 4) (j := 4) b2 hk hT d_T_init_16 rfl (by decide) wf_T_18 (Or.inl rfl) rfl rfl (fun _ _ => rfl) (fun h3 b3 => ?_)
  first | refine x_aload_n d_T_init_19 rfl ?_ | refine x_aloadq_n d_T_init_19 rfl ?_
  refine x_iload_n d_T_init_20 rfl ?_
  refine b_putI (kc := 4) (j := 0) b3 hk hT d_T_init_21 rfl (by decide) wf_T_21 (Or.inr ⟨rfl, rfl, rfl⟩) hb hf (fun _ _ => rfl) (fun h4 b4 => ?_)
  first | refine x_aload_n d_T_init_24 rfl ?_ | refine x_aloadq_n d_T_init_24 rfl ?_
  refine x_iload_n d_T_init_25 rfl ?_
  refine b_putI (kc := 4) (j := 1) b4 hk hT d_T_init_26 rfl (by decide) wf_T_25 (Or.inr ⟨rfl, rfl, rfl⟩) rfl rfl (fun _ _ => rfl) (fun h5 b5 => ?_)
  refine x_vret d_T_init_29 rfl ?_
  exact ⟨rfl, b5⟩
abbrev pI (s : SG) (k cap : Nat) : SG := sP (sNew (sP (sNew (sI s k 2 (nI 0)) 100 cap) k 0 (some s.1)) 100 cap) k 1 (some (s.1 + 1))
theorem c_P_init {k cap : Nat} (b : CB g h z s sl) (hk : k < s.1) (hT : s.2.1 k = 3 + 1) (hc : cap ≤ 1000) : xVM l G 1 20 m_P_init [.ref (z + k), .int (nI cap)] h (fun r h' => r = .inl none ∧ CB g h' z (pI s k cap) (sl + cap + cap)) := by
  have hT1 : xr s.2.1 s.1 100 k = 3 + 1 := (xr_n _ _ (by omega)).trans hT
  have hT2 : xr (xr s.2.1 s.1 100) (s.1 + 1) 100 k = 3 + 1 := (xr_n _ _ (by omega)).trans hT1
  have hk1 : k < s.1 + 1 := by omega
  have hk2 : k < s.1 + 1 + 1 := by omega
  unfold xVM
  first | refine x_aload_n d_P_init_0 rfl ?_ | refine x_aloadq_n d_P_init_0 rfl ?_
  refine x_objInit d_P_init_1 wl_P_3 wm_O_init wc_O_init (by decide) (by decide) (by decide) ?_
  first | refine x_aload_n d_P_init_4 rfl ?_ | refine x_aloadq_n d_P_init_4 rfl ?_
  refine x_iconst (v := nI 0) d_P_init_5 (by decide) ?_
  refine b_putI (kc := 3) (j := 2) b hk hT d_P_init_6 rfl (by decide) wf_P_9 (Or.inl rfl) rfl rfl (fun _ _ => rfl) (fun h1 b1 => ?_)
  first | refine x_aload_n d_P_init_9 rfl ?_ | refine x_aloadq_n d_P_init_9 rfl ?_
  refine x_iload_n d_P_init_10 rfl ?_
  refine b_newa b1 d_P_init_11 hc (fun h2 b2 => ?_)
  refine b_putP (kc := 3) (j := 0) b2 hk1 hT1 d_P_init_13 rfl (by decide) wf_P_15 (Or.inr ⟨rfl, rfl, rfl⟩) (fun _ => rfl) (fun _ => rfl) (fun _ _ => rfl) (fun h3 b3 => ?_)
  first | refine x_aload_n d_P_init_16 rfl ?_ | refine x_aloadq_n d_P_init_16 rfl ?_
  refine x_iload_n d_P_init_17 rfl ?_
  refine b_newa b3 d_P_init_18 hc (fun h4 b4 => ?_)
  refine b_putP (kc := 3) (j := 1) b4 hk2 hT2 d_P_init_20 rfl (by decide) wf_P_19 (Or.inr ⟨rfl, rfl, rfl⟩) (fun _ => rfl) (fun _ => rfl) (fun _ _ => rfl) (fun h5 b5 => ?_)
  refine x_vret d_P_init_23 rfl ?_
  exact ⟨rfl, b5⟩
abbrev cI (s : SG) (k : Nat) : SG := sI (sP (sNew s 100 6) k 0 (some s.1)) k 1 (nI 0)
theorem c_C_init {k : Nat} (b : CB g h z s sl) (hk : k < s.1) (hT : s.2.1 k = 1 + 1) : xVM l G 1 20 m_C_init [.ref (z + k)] h (fun r h' => r = .inl none ∧ CB g h' z (cI s k) (sl + 6)) := by
  have hT1 : xr s.2.1 s.1 100 k = 1 + 1 := (xr_n _ _ (by omega)).trans hT
  have hk1 : k < s.1 + 1 := by omega
  unfold xVM
  first | refine x_aload_n d_C_init_0 rfl ?_ | refine x_aloadq_n d_C_init_0 rfl ?_
  refine x_objInit d_C_init_1 wl_C_3 wm_O_init wc_O_init (by decide) (by decide) (by decide) ?_
  first | refine x_aload_n d_C_init_4 rfl ?_ | refine x_aloadq_n d_C_init_4 rfl ?_
  refine x_bipush (v := nI 6) d_C_init_5 (by decide) ?_
  refine b_newa (N := 6) b d_C_init_7 (by decide) (fun h1 b1 => ?_)
  refine b_putP (kc := 1) (j := 0) b1 hk1 hT1 d_C_init_9 rfl (by decide) wf_C_9 (Or.inr ⟨rfl, rfl, rfl⟩) (fun _ => rfl) (fun _ => rfl) (fun _ _ => rfl) (fun h2 b2 => ?_)
  first | refine x_aload_n d_C_init_12 rfl ?_ | refine x_aloadq_n d_C_init_12 rfl ?_
  refine x_iconst (v := nI 0) d_C_init_13 (by decide) ?_
  refine b_putI (kc := 1) (j := 1) b2 hk1 hT1 d_C_init_14 rfl (by decide) wf_C_15 (Or.inl rfl) rfl rfl (fun _ _ => rfl) (fun h3 b3 => ?_)
  refine x_vret d_C_init_17 rfl ?_
  exact ⟨rfl, b3⟩
end XC14

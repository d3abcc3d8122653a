/-! THE PICTURE OF THE HEAP. h = ((next address, slots used), (kind, length), ints, references, longs); kinds: 0 nothing, 1 + k an object of class k, 100 + t an array, 200 + k an exception -/
abbrev xH : Type := (Nat × Nat) × ((Nat → Nat) × (Nat → Nat)) × (Nat → Nat → Int32) × (Nat → Nat → Option Nat) × (Nat → Nat → Int64)
abbrev xnx (h : xH) : Nat := h.1.1
abbrev xsl (h : xH) : Nat := h.1.2
abbrev xT (h : xH) : Nat → Nat := h.2.1.1
abbrev xN (h : xH) : Nat → Nat := h.2.1.2
abbrev xI (h : xH) : Nat → Nat → Int32 := h.2.2.1
abbrev xP (h : xH) : Nat → Nat → Option Nat := h.2.2.2.1
abbrev xJ (h : xH) : Nat → Nat → Int64 := h.2.2.2.2
def xu {α : Type} (f : Nat → Nat → α) (a j : Nat) (v : α) : Nat → Nat → α := fun b i => if b = a ∧ i = j then v else f b i
def xr {α : Type} (f : Nat → α) (a : Nat) (r : α) : Nat → α := fun b => if b = a then r else f b
abbrev xwI (h : xH) (a j : Nat) (v : Int32) : xH := (h.1, h.2.1, xu h.2.2.1 a j v, h.2.2.2)
abbrev xwP (h : xH) (a j : Nat) (v : Option Nat) : xH := (h.1, h.2.1, h.2.2.1, xu h.2.2.2.1 a j v, h.2.2.2.2)
abbrev xwJ (h : xH) (a j : Nat) (v : Int64) : xH := (h.1, h.2.1, h.2.2.1, h.2.2.2.1, xu h.2.2.2.2 a j v)
/-- a new cell: kind t, length n, sl slots, all 0 and null -/
abbrev xnw (h : xH) (t n sl : Nat) : xH := ((h.1.1 + 1, h.1.2 + sl), (xr h.2.1.1 h.1.1 t, xr h.2.1.2 h.1.1 n), xr h.2.2.1 h.1.1 (fun _ => 0), xr h.2.2.2.1 h.1.1 (fun _ => none), xr h.2.2.2.2 h.1.1 (fun _ => 0))
theorem xu_s {α : Type} (f : Nat → Nat → α) (a j : Nat) (v : α) : xu f a j v a j = v := if_pos ⟨rfl, rfl⟩
theorem xu_a {α : Type} (f : Nat → Nat → α) {a b : Nat} (j i : Nat) (v : α) (h : b ≠ a) : xu f a j v b i = f b i := if_neg (fun q => h q.1)
theorem xu_j {α : Type} (f : Nat → Nat → α) (a b : Nat) {j i : Nat} (v : α) (h : i ≠ j) : xu f a j v b i = f b i := if_neg (fun q => h q.2)
theorem xr_s {α : Type} (f : Nat → α) (a : Nat) (r : α) : xr f a r a = r := if_pos rfl
theorem xr_n {α : Type} (f : Nat → α) {a b : Nat} (r : α) (h : b ≠ a) : xr f a r b = f b := if_neg h
/-- what a slot of that type holds -/
def xsv (ty : FieldType) (h : xH) (a j : Nat) : Value := match ty with
  | .long => .long (xJ h a j)
  | .object _ => va_rf (xP h a j)
  | .array _ => va_rf (xP h a j)
  | _ => .int (xI h a j)
/-- the surroundings: the classes' numbers and slots, the numbers of array classes and exceptions, the heap at the start -/
abbrev xG : Type := va_G × (Nat → ClassId) × Heap × (Nat × Nat × (Nat → Int32))
abbrev xGD (G : xG) : va_G := G.1
abbrev xGA (G : xG) : Nat → ClassId := G.2.1
abbrev xGH (G : xG) : Heap := G.2.2.1
abbrev xGz (G : xG) : Nat := G.2.2.1.size
/-- the script: its address, how many ints, which -/
abbrev xGb (G : xG) : Nat := G.2.2.2.1
abbrev xGL (G : xG) : Nat := G.2.2.2.2.1
abbrev xGx (G : xG) : Nat → Int32 := G.2.2.2.2.2
def xCell (G : xG) (h : xH) (H : Heap) (a t : Nat) : Prop :=
  if t < 100 then ∃ r : vw_C, xcls[t - 1]? = some r ∧ t_OB a ((xGD G).1 (t - 1)) r.2.2 ((xGD G).2 (t - 1)) H (fun j => xsv (xft (t - 1) j) h a j)
  else if t < 200 then ∃ ty : FieldType, xat t = some ty ∧ H[a]? = some (arrV (xGA G t) (xN h a) (fun j => xsv ty h a j))
  else ∃ cell : Cell, H[a]? = some cell ∧ cell.cls = xGA G t ∧ cell.vm.isStatics = false
def xRep (G : xG) (h : xH) (H : Heap) : Prop := H.size = xnx h ∧ xGz G ≤ xnx h ∧ (∀ q : Nat, q < xGz G → H[q]? = (xGH G)[q]?) ∧ ∀ a : Nat, xT h a ≠ 0 → xGz G ≤ a ∧ a < xnx h ∧ xCell G h H a (xT h a)
/-- a static field that holds a reference or null, in the heap at the start -/
def xStat (Hb : Heap) (U : State) (q : String × String × String) : Prop := ∃ (c : ClassId) (k : Class) (i : Nat) (f : Field) (a : Nat) (cell : Cell) (v : Value), U.vm.findClass q.1 = some c ∧ U.fieldFound? q.1 q.2.1 q.2.2 = some (c, k, i, f) ∧ f.isStatic = true ∧ k.statics = some a ∧ Hb[a]? = some cell ∧ cell.vm.isStatics = true ∧ cell.cls = c ∧ f.slot < cell.slots.size ∧ k.staticTypes[f.slot]? = some f.type ∧ cell.slots[f.slot]? = some v ∧ (v = .null ∨ ∃ t : Nat, v = .ref t)
theorem xStat.moved {Hb : Heap} {u U : State} {q : String × String × String} (hvm : u.vm.Alike U.vm) (h : xStat Hb u q) : xStat Hb U q := by
  obtain ⟨c, k, i, f, a, cell, v, h1, h2, h3, h4, h5, h6, h7, h8, h9, h10⟩ := h
  obtain ⟨k', hi', he⟩ := State.fieldFound?_setVm hvm h2
  exact ⟨c, k', i, f, a, cell, v, by rw [hvm.findClass]; exact h1, hi', h3, by rw [he]; exact h4, h5, h6, h7, h8, by rw [he]; exact h9, h10⟩
theorem xword0 {args a' : Array Value} {s U : State} (hW : s.WarmedH U.vm) {w : Cond} (hg : (w.onTables && w.keepsFace) = true) (h : w.before args s = true) : w.before a' U = true := by
  simp only [Bool.and_eq_true] at hg
  have h1 := Cond.before_shiftedFace (State.Shifted.of_warmed hW) w hg.2 h
  rw [Cond.onTables_vm (A := args) (A' := a') (U := s) (U' := U) U.vm w hg.1, State.setVm_self] at h1
  exact h1
theorem xword {args a' : Array Value} {s U : State} (hW : s.WarmedH U.vm) {w : Cond} (hg : xgood w = true) (h : w.before args s = true) : w.before a' U = true := by
  cases w with
  | arrayClass ty => exact word_at hW (Or.inr ⟨_, rfl⟩) h
  | methodLinkNest a i x n => exact va_Nw.use rfl (va_Nw.warmM hW (va_Nw.of rfl h))
  | fieldLinkNest a i b n d q => exact va_Nw.use rfl (va_Nw.warmF hW (va_Nw.of rfl h))
  | arrayOver ty => cases ty with
    | object C => exact (va_AO.moved hW.alike (va_AO.of h)).use
    | _ => exact xword0 hW hg h
  | _ => exact xword0 hW hg h
/-- what the tables say, at any state of the run -/
def xKn (G : xG) (U : State) : Prop :=
  (∀ (c : Nat) (q : vw_C), xcls[c]? = some q → u_Kn U q.1 q.2.1 q.2.2 ((xGD G).1 c) ((xGD G).2 c)) ∧ (∀ (t : Nat) (ty : FieldType), xat t = some ty → ArrOfT U (xGA G t) ty ∧ va_RA U (xGA G t) ty) ∧
  (∀ (k : Nat) (n : String), xexn[k]? = some n → U.vm.findClass n = some (xGA G (200 + k))) ∧ (∀ (a' : Array Value) (w : Cond), w ∈ xTT → w.before a' U = true) ∧ (∀ q ∈ xSS, xStat (xGH G) U q) ∧ (∀ q ∈ xNC, va_Nc q.1 q.2 U) ∧ va_X (xGb G) (xGL G) (xGx G) U (xGH G)
theorem xKn.moved {G : xG} {s U : State} (hW : s.WarmedH U.vm) (hK : xKn G s) : xKn G U :=
  ⟨fun c q hq => u_Kn_moved hW.alike (hK.1 c q hq), fun t ty ht => ⟨arrOfT_moved hW.alike (hK.2.1 t ty ht).1, (hK.2.1 t ty ht).2.moved hW.alike⟩, fun k n hk => by rw [hW.alike.findClass]; exact hK.2.2.1 k n hk, fun a' w hw => xword hW (xTTgood w hw) (hK.2.2.2.1 #[] w hw), fun q hq => (hK.2.2.2.2.1 q hq).moved hW.alike, fun q hq => (hK.2.2.2.2.2.1 q hq).moved hW.alike, hK.2.2.2.2.2.2.moved hW.alike⟩
def xCx (G : xG) (M : xM) (p : Program) (s : State) (m : MethodId) (meth : Method) (c : Code) : Prop :=
  p.tables.exec = Jvm.exec ∧ c.code = xMc M ∧ c.maxLocals = xMl M ∧ meth.sig.returnType = xMr M ∧ meth.locks = false ∧ s.vm.findClass (xMn M).cls = some m.cls ∧ meth.name = (xMn M).name ∧ xKn G s ∧ c.exceptionTable.toList.map (fun q => (q.startPc, q.endPc, q.handlerPc, q.catchType)) = xMh M
/-- an answer: returned, or thrown: the exception's kind and address -/
abbrev xR : Type := Option Value ⊕ (Nat × Nat)
def xMQT (below : List Frame) (s : State) (a C S : Nat) (P : State → Prop) (free : Addr → Prop) : State → Prop := fun t =>
  t.status = .running ∧ Ended t below (.threw a) ∧ P t ∧ s.WarmedH t.vm ∧ ∃ L : List Loc, s.sameButNew ({ t with vm := s.vm } : State) L C S ∧ ∀ q ∈ L, free q.base
def xPost (G : xG) (below : List Frame) (args : Array Value) (s : State) (r : xR) (h' : xH) (C S : Nat) : State → Prop := match r with
  | .inl v => MQ below (fun _ _ o t => o = .returned v ∧ xRep G h' t.heap) args s C S (fun q => xGz G ≤ q)
  | .inr (k, a) => xMQT below s a C S (fun t => xT h' a = 200 + k ∧ xRep G h' t.heap) (fun q => xGz G ≤ q)
/-- THE JUDGEMENT: from that frame and heap the method ends, and its end has Q; fr, wd: the frames and words that it may take -/
def xV (l : Launch) (G : xG) (fr wd : Nat) (M : xM) (pc : Nat) (L : List (Nat × Value)) (st : List Value) (h : xH) (Q : xR → xH → Prop) : Prop :=
  ∃ (r : xR) (h' : xH), Q r h' ∧ xnx h ≤ xnx h' ∧ xsl h ≤ xsl h' ∧
    ∀ (p : Program) (e : Env) (R : Room) (s : State) (m : MethodId) (args : Array Value) (below : List Frame) (meth : Method) (c : Code) (H : Heap) (locs : List Loc) (cells slots : Nat) (ls : Array Slot),
      xCx G M p s m meth c → xRep G h H → lv_has ls (xMl M) L → (∀ q ∈ locs, xGz G ≤ q.base) → (xnx h' - xnx h) + cells ≤ R.cells → (xsl h' - xsl h) + slots ≤ R.slots → fr ≤ R.frames → wd ≤ R.locals →
      W p l e R s m args below meth c H locs cells slots (xPost G below args s r h' ((xnx h' - xnx h) + cells) ((xsl h' - xsl h) + slots)) (F0 m pc ls st)
/-- a whole method, from its entry -/
def xVM (l : Launch) (G : xG) (fr wd : Nat) (M : xM) (As : List Value) (h : xH) (Q : xR → xH → Prop) : Prop := xV l G fr wd M 0 (lv_args 0 As) [] h Q
theorem xV.imp {l : Launch} {G : xG} {fr wd : Nat} {M : xM} {pc : Nat} {L : List (Nat × Value)} {st : List Value} {h : xH} {Q Q' : xR → xH → Prop} (k : xV l G fr wd M pc L st h Q) (f : ∀ r h', Q r h' → Q' r h') : xV l G fr wd M pc L st h Q' := by
  obtain ⟨r, h', q, x⟩ := k
  exact ⟨r, h', f r h' q, x⟩
theorem xV.up {l : Launch} {G : xG} {fr wd fr' wd' : Nat} {M : xM} {pc : Nat} {L : List (Nat × Value)} {st : List Value} {h : xH} {Q : xR → xH → Prop} (k : xV l G fr wd M pc L st h Q) (hd : fr ≤ fr') (hw : wd ≤ wd') : xV l G fr' wd' M pc L st h Q := by
  obtain ⟨r, h', q, x1, x2, x⟩ := k
  exact ⟨r, h', q, x1, x2, fun p e R s m args below meth c H locs cells slots ls C hR hl hf h1 h2 h3 h4 => x p e R s m args below meth c H locs cells slots ls C hR hl hf h1 h2 (Nat.le_trans hd h3) (Nat.le_trans hw h4)⟩
/-- a step that leaves the heap alone -/
theorem xgo {l : Launch} {G : xG} {fr wd : Nat} {M : xM} {pc pc2 : Nat} {L L2 : List (Nat × Value)} {st st2 : List Value} {h : xH} {Q : xR → xH → Prop} (k : xV l G fr wd M pc2 L2 st2 h Q)
    (f : ∀ (p : Program) (e : Env) (R : Room) (s : State) (m : MethodId) (args : Array Value) (below : List Frame) (meth : Method) (c : Code) (H : Heap) (locs : List Loc) (cells slots : Nat) (ls : Array Slot) (Qw : State → Prop),
      xCx G M p s m meth c → xRep G h H → lv_has ls (xMl M) L → (∀ ls' : Array Slot, lv_has ls' (xMl M) L2 → W p l e R s m args below meth c H locs cells slots Qw (F0 m pc2 ls' st2)) → W p l e R s m args below meth c H locs cells slots Qw (F0 m pc ls st)) :
    xV l G fr wd M pc L st h Q := by
  obtain ⟨r, h', q, x1, x2, x⟩ := k
  exact ⟨r, h', q, x1, x2, fun p e R s m args below meth c H locs cells slots ls C hR hl hf h1 h2 h3 h4 => f p e R s m args below meth c H locs cells slots ls _ C hR hl (fun ls' hl' => x p e R s m args below meth c H locs cells slots ls' C hR hl' hf h1 h2 h3 h4)⟩
def xlk (L : List (Nat × Value)) (i : Nat) : Option Value := (L.find? (fun q => q.1 == i)).map (fun q => q.2)
theorem xlk_has {L : List (Nat × Value)} {i n : Nat} {v : Value} {ls : Array Slot} (hl : lv_has ls n L) (h : xlk L i = some v) : ls[i]? = some (.val v) := by
  unfold xlk at h
  obtain ⟨q, hq, rfl⟩ := Option.map_eq_some_iff.mp h
  have h1 := hl.2.2 q (List.mem_of_find?_eq_some hq)
  have h2 : q.1 = i := by simpa using List.find?_some hq
  rw [← h2]
  exact h1
abbrev xst (L : List (Nat × Value)) (i : Nat) (v : Value) : List (Nat × Value) := (i, v) :: L.filter (fun q => !(q.1 == i) && !(q.1 + 1 == i && q.2.category == 2))
abbrev xst2 (L : List (Nat × Value)) (i : Nat) (v : Value) : List (Nat × Value) := (i, v) :: L.filter (fun q => !(q.1 == i) && (!(q.1 == i + 1) && !(q.1 + 1 == i && q.2.category == 2)))
section XROWS
variable {l : Launch} {G : xG} {fr wd : Nat} {M : xM} {pc : Nat} {L : List (Nat × Value)} {st : List Value} {h : xH} {Q : xR → xH → Prop}
theorem x_iconst {n : Int} {v : Int32} (hd : decode (xMc M) pc = .ok (.iconst n, 1)) (hv : Int32.ofInt n = v) (k : xV l G fr wd M (pc + 1) L (.int v :: st) h Q) : xV l G fr wd M pc L st h Q :=
  xgo k (fun p e R s m args below meth c H locs cells slots ls Qw C hR hl kk => lv_iconst C.1 C.2.1 hd hv (kk ls hl))
theorem x_bipush {n : Int} {v : Int32} (hd : decode (xMc M) pc = .ok (.bipush n, 2)) (hv : (Int8.ofInt n).toInt32 = v) (k : xV l G fr wd M (pc + 2) L (.int v :: st) h Q) : xV l G fr wd M pc L st h Q :=
  xgo k (fun p e R s m args below meth c H locs cells slots ls Qw C hR hl kk => lv_bipush C.1 C.2.1 hd hv (kk ls hl))
theorem x_sipush {n : Int} {v : Int32} (hd : decode (xMc M) pc = .ok (.sipush n, 3)) (hv : (Int16.ofInt n).toInt32 = v) (k : xV l G fr wd M (pc + 3) L (.int v :: st) h Q) : xV l G fr wd M pc L st h Q :=
  xgo k (fun p e R s m args below meth c H locs cells slots ls Qw C hR hl kk => lv_sipush C.1 C.2.1 hd hv (kk ls hl))
theorem x_lconst {n : Fin 2} {v : Int64} (hd : decode (xMc M) pc = .ok (.lconst n, 1)) (hv : Int64.ofNat (n : Nat) = v) (k : xV l G fr wd M (pc + 1) L (.long v :: st) h Q) : xV l G fr wd M pc L st h Q :=
  xgo k (fun p e R s m args below meth c H locs cells slots ls Qw C hR hl kk => lv_lconst C.1 C.2.1 hd hv (kk ls hl))
theorem x_ldc {ix : Nat} {v : Int32} (hd : decode (xMc M) pc = .ok (.ldc ix, 2)) (hw : Cond.constant (xMn M).cls ix v ∈ xTT) (k : xV l G fr wd M (pc + 2) L (.int v :: st) h Q) : xV l G fr wd M pc L st h Q :=
  xgo k (fun p e R s m args below meth c H locs cells slots ls Qw C hR hl kk => lv_ldc C.1 C.2.1 C.2.2.2.2.2.1 (C.2.2.2.2.2.2.2.1.2.2.2.1 args _ hw) hd (kk ls hl))
theorem x_ldc2 {ix : Nat} {v : Int64} (hd : decode (xMc M) pc = .ok (.ldc2_w ix, 3)) (hw : Cond.constantLong (xMn M).cls ix v ∈ xTT) (k : xV l G fr wd M (pc + 3) L (.long v :: st) h Q) : xV l G fr wd M pc L st h Q :=
  xgo k (fun p e R s m args below meth c H locs cells slots ls Qw C hR hl kk => lv_ldc2 C.1 C.2.1 C.2.2.2.2.2.1 (C.2.2.2.2.2.2.2.1.2.2.2.1 args _ hw) hd (kk ls hl))
theorem x_null (hd : decode (xMc M) pc = .ok (.aconst_null, 1)) (k : xV l G fr wd M (pc + 1) L (.null :: st) h Q) : xV l G fr wd M pc L st h Q :=
  xgo k (fun p e R s m args below meth c H locs cells slots ls Qw C hR hl kk => lv_null C.1 C.2.1 hd (kk ls hl))
theorem x_iload_n {k : Fin 4} {x : Int32} (hd : decode (xMc M) pc = .ok (.iload_n k, 1)) (hx : xlk L (k : Nat) = some (.int x)) (k : xV l G fr wd M (pc + 1) L (.int x :: st) h Q) : xV l G fr wd M pc L st h Q :=
  xgo k (fun p e R s m args below meth c H locs cells slots ls Qw C hR hl kk => lv_iload_n C.1 C.2.1 hd rfl (xlk_has hl hx) (kk ls hl))
theorem x_iload {i : Nat} {x : Int32} (hd : decode (xMc M) pc = .ok (.iload i, 2)) (hx : xlk L i = some (.int x)) (k : xV l G fr wd M (pc + 2) L (.int x :: st) h Q) : xV l G fr wd M pc L st h Q :=
  xgo k (fun p e R s m args below meth c H locs cells slots ls Qw C hR hl kk => lv_iload C.1 C.2.1 hd (xlk_has hl hx) (kk ls hl))
theorem x_lload_n {k : Fin 4} {x : Int64} (hd : decode (xMc M) pc = .ok (.lload_n k, 1)) (hx : xlk L (k : Nat) = some (.long x)) (k : xV l G fr wd M (pc + 1) L (.long x :: st) h Q) : xV l G fr wd M pc L st h Q :=
  xgo k (fun p e R s m args below meth c H locs cells slots ls Qw C hR hl kk => lv_lload_n C.1 C.2.1 hd rfl (xlk_has hl hx) (kk ls hl))
theorem x_lload {i : Nat} {x : Int64} (hd : decode (xMc M) pc = .ok (.lload i, 2)) (hx : xlk L i = some (.long x)) (k : xV l G fr wd M (pc + 2) L (.long x :: st) h Q) : xV l G fr wd M pc L st h Q :=
  xgo k (fun p e R s m args below meth c H locs cells slots ls Qw C hR hl kk => lv_lload C.1 C.2.1 hd (xlk_has hl hx) (kk ls hl))
theorem x_aload_n {k : Fin 4} {x : Nat} (hd : decode (xMc M) pc = .ok (.aload_n k, 1)) (hx : xlk L (k : Nat) = some (.ref x)) (k : xV l G fr wd M (pc + 1) L (.ref x :: st) h Q) : xV l G fr wd M pc L st h Q :=
  xgo k (fun p e R s m args below meth c H locs cells slots ls Qw C hR hl kk => lv_aload_n C.1 C.2.1 hd rfl (xlk_has hl hx) (kk ls hl))
theorem x_aload {i : Nat} {x : Nat} (hd : decode (xMc M) pc = .ok (.aload i, 2)) (hx : xlk L i = some (.ref x)) (k : xV l G fr wd M (pc + 2) L (.ref x :: st) h Q) : xV l G fr wd M pc L st h Q :=
  xgo k (fun p e R s m args below meth c H locs cells slots ls Qw C hR hl kk => lv_aload C.1 C.2.1 hd (xlk_has hl hx) (kk ls hl))
theorem x_aloadq_n {k : Fin 4} {o : Option Nat} (hd : decode (xMc M) pc = .ok (.aload_n k, 1)) (hx : xlk L (k : Nat) = some (va_rf o)) (kq : xV l G fr wd M (pc + 1) L (va_rf o :: st) h Q) : xV l G fr wd M pc L st h Q := by
  cases o with
  | none => exact xgo kq (fun p e R s m args below meth c H locs cells slots ls Qw C hR hl kk => lv_aload_nN C.1 C.2.1 hd rfl (xlk_has hl hx) (kk ls hl))
  | some x => exact xgo kq (fun p e R s m args below meth c H locs cells slots ls Qw C hR hl kk => lv_aload_n C.1 C.2.1 hd rfl (xlk_has hl hx) (kk ls hl))
theorem x_aloadq {i : Nat} {o : Option Nat} (hd : decode (xMc M) pc = .ok (.aload i, 2)) (hx : xlk L i = some (va_rf o)) (kq : xV l G fr wd M (pc + 2) L (va_rf o :: st) h Q) : xV l G fr wd M pc L st h Q := by
  cases o with
  | none => exact xgo kq (fun p e R s m args below meth c H locs cells slots ls Qw C hR hl kk => lv_aloadN C.1 C.2.1 hd (xlk_has hl hx) (kk ls hl))
  | some x => exact xgo kq (fun p e R s m args below meth c H locs cells slots ls Qw C hR hl kk => lv_aload C.1 C.2.1 hd (xlk_has hl hx) (kk ls hl))
theorem x_istore_n {k : Fin 4} {x : Int32} (hd : decode (xMc M) pc = .ok (.istore_n k, 1)) (hn : (k : Nat) < xMl M) (k : xV l G fr wd M (pc + 1) (xst L (k : Nat) (.int x)) st h Q) : xV l G fr wd M pc L (.int x :: st) h Q :=
  xgo k (fun p e R s m args below meth c H locs cells slots ls Qw C hR hl kk => lv_istore_n C.1 C.2.1 hd rfl hl hn rfl kk)
theorem x_istore {i : Nat} {x : Int32} (hd : decode (xMc M) pc = .ok (.istore i, 2)) (hn : i < xMl M) (k : xV l G fr wd M (pc + 2) (xst L i (.int x)) st h Q) : xV l G fr wd M pc L (.int x :: st) h Q :=
  xgo k (fun p e R s m args below meth c H locs cells slots ls Qw C hR hl kk => lv_istore C.1 C.2.1 hd hl hn rfl kk)
theorem x_lstore_n {k : Fin 4} {x : Int64} (hd : decode (xMc M) pc = .ok (.lstore_n k, 1)) (hn : (k : Nat) + 1 < xMl M) (k : xV l G fr wd M (pc + 1) (xst2 L (k : Nat) (.long x)) st h Q) : xV l G fr wd M pc L (.long x :: st) h Q :=
  xgo k (fun p e R s m args below meth c H locs cells slots ls Qw C hR hl kk => lv_lstore_n C.1 C.2.1 hd rfl hl hn rfl kk)
theorem x_lstore {i : Nat} {x : Int64} (hd : decode (xMc M) pc = .ok (.lstore i, 2)) (hn : i + 1 < xMl M) (k : xV l G fr wd M (pc + 2) (xst2 L i (.long x)) st h Q) : xV l G fr wd M pc L (.long x :: st) h Q :=
  xgo k (fun p e R s m args below meth c H locs cells slots ls Qw C hR hl kk => lv_lstore C.1 C.2.1 hd hl hn rfl kk)
theorem x_astore_n {k : Fin 4} {x : Nat} (hd : decode (xMc M) pc = .ok (.astore_n k, 1)) (hn : (k : Nat) < xMl M) (k : xV l G fr wd M (pc + 1) (xst L (k : Nat) (.ref x)) st h Q) : xV l G fr wd M pc L (.ref x :: st) h Q :=
  xgo k (fun p e R s m args below meth c H locs cells slots ls Qw C hR hl kk => lv_astore_n C.1 C.2.1 hd rfl hl hn rfl kk)
theorem x_astore {i : Nat} {x : Nat} (hd : decode (xMc M) pc = .ok (.astore i, 2)) (hn : i < xMl M) (k : xV l G fr wd M (pc + 2) (xst L i (.ref x)) st h Q) : xV l G fr wd M pc L (.ref x :: st) h Q :=
  xgo k (fun p e R s m args below meth c H locs cells slots ls Qw C hR hl kk => lv_astore C.1 C.2.1 hd hl hn rfl kk)
theorem x_astore_nN {k : Fin 4} (hd : decode (xMc M) pc = .ok (.astore_n k, 1)) (hn : (k : Nat) < xMl M) (k : xV l G fr wd M (pc + 1) (xst L (k : Nat) .null) st h Q) : xV l G fr wd M pc L (.null :: st) h Q :=
  xgo k (fun p e R s m args below meth c H locs cells slots ls Qw C hR hl kk => lv_astore_nN C.1 C.2.1 hd rfl hl hn rfl kk)
theorem x_astoreN {i : Nat} (hd : decode (xMc M) pc = .ok (.astore i, 2)) (hn : i < xMl M) (k : xV l G fr wd M (pc + 2) (xst L i .null) st h Q) : xV l G fr wd M pc L (.null :: st) h Q :=
  xgo k (fun p e R s m args below meth c H locs cells slots ls Qw C hR hl kk => lv_astoreN C.1 C.2.1 hd hl hn rfl kk)
theorem x_astoreq_n {k : Fin 4} {o : Option Nat} (hd : decode (xMc M) pc = .ok (.astore_n k, 1)) (hn : (k : Nat) < xMl M) (kq : xV l G fr wd M (pc + 1) (xst L (k : Nat) (va_rf o)) st h Q) : xV l G fr wd M pc L (va_rf o :: st) h Q := by
  cases o with
  | none => exact x_astore_nN hd hn kq
  | some x => exact x_astore_n hd hn kq
theorem x_astoreq {i : Nat} {o : Option Nat} (hd : decode (xMc M) pc = .ok (.astore i, 2)) (hn : i < xMl M) (kq : xV l G fr wd M (pc + 2) (xst L i (va_rf o)) st h Q) : xV l G fr wd M pc L (va_rf o :: st) h Q := by
  cases o with
  | none => exact x_astoreN hd hn kq
  | some x => exact x_astore hd hn kq
theorem xlk_pos {L : List (Nat × Value)} {i : Nat} {v : Value} (h : xlk L i = some v) : ∃ k : Nat, L[k]? = some (i, v) := by
  unfold xlk at h
  obtain ⟨q, hq, rfl⟩ := Option.map_eq_some_iff.mp h
  have h2 : q.1 = i := by simpa using List.find?_some hq
  obtain ⟨k, hk⟩ := List.getElem?_of_mem (List.mem_of_find?_eq_some hq)
  exact ⟨k, by rw [hk, ← h2]⟩
theorem x_iinc {i : Nat} {n : Int} {x v : Int32} (hd : decode (xMc M) pc = .ok (.iinc i n, 3)) (hx : xlk L i = some (.int x)) (hv : x + Int32.ofInt n = v) (hn : i < xMl M) (kq : xV l G fr wd M (pc + 3) (xst L i (.int v)) st h Q) : xV l G fr wd M pc L st h Q := by
  obtain ⟨k0, hk0⟩ := xlk_pos hx
  exact xgo kq (fun p e R s m args below meth c H locs cells slots ls Qw C hR hl kk => lv_iinc C.1 C.2.1 hd hl hk0 hv hn rfl kk)
theorem x_iadd {x y : Int32} (hd : decode (xMc M) pc = .ok (.iadd, 1)) (k : xV l G fr wd M (pc + 1) L (.int (x + y) :: st) h Q) : xV l G fr wd M pc L (.int y :: .int x :: st) h Q :=
  xgo k (fun p e R s m args below meth c H locs cells slots ls Qw C hR hl kk => lv_iadd C.1 C.2.1 hd (kk ls hl))
theorem x_isub {x y : Int32} (hd : decode (xMc M) pc = .ok (.isub, 1)) (k : xV l G fr wd M (pc + 1) L (.int (x - y) :: st) h Q) : xV l G fr wd M pc L (.int y :: .int x :: st) h Q :=
  xgo k (fun p e R s m args below meth c H locs cells slots ls Qw C hR hl kk => lv_isub C.1 C.2.1 hd (kk ls hl))
theorem x_imul {x y : Int32} (hd : decode (xMc M) pc = .ok (.imul, 1)) (k : xV l G fr wd M (pc + 1) L (.int (x * y) :: st) h Q) : xV l G fr wd M pc L (.int y :: .int x :: st) h Q :=
  xgo k (fun p e R s m args below meth c H locs cells slots ls Qw C hR hl kk => lv_imul C.1 C.2.1 hd (kk ls hl))
theorem x_iand {x y : Int32} (hd : decode (xMc M) pc = .ok (.iand, 1)) (k : xV l G fr wd M (pc + 1) L (.int (x &&& y) :: st) h Q) : xV l G fr wd M pc L (.int y :: .int x :: st) h Q :=
  xgo k (fun p e R s m args below meth c H locs cells slots ls Qw C hR hl kk => lv_iand C.1 C.2.1 hd (kk ls hl))
theorem x_ior {x y : Int32} (hd : decode (xMc M) pc = .ok (.ior, 1)) (k : xV l G fr wd M (pc + 1) L (.int (x ||| y) :: st) h Q) : xV l G fr wd M pc L (.int y :: .int x :: st) h Q :=
  xgo k (fun p e R s m args below meth c H locs cells slots ls Qw C hR hl kk => lv_ior C.1 C.2.1 hd (kk ls hl))
theorem x_ixor {x y : Int32} (hd : decode (xMc M) pc = .ok (.ixor, 1)) (k : xV l G fr wd M (pc + 1) L (.int (x ^^^ y) :: st) h Q) : xV l G fr wd M pc L (.int y :: .int x :: st) h Q :=
  xgo k (fun p e R s m args below meth c H locs cells slots ls Qw C hR hl kk => lv_ixor C.1 C.2.1 hd (kk ls hl))
theorem x_ishl {x y : Int32} (hd : decode (xMc M) pc = .ok (.ishl, 1)) (k : xV l G fr wd M (pc + 1) L (.int (x <<< (y &&& 31)) :: st) h Q) : xV l G fr wd M pc L (.int y :: .int x :: st) h Q :=
  xgo k (fun p e R s m args below meth c H locs cells slots ls Qw C hR hl kk => lv_ishl C.1 C.2.1 hd (kk ls hl))
theorem x_ishr {x y : Int32} (hd : decode (xMc M) pc = .ok (.ishr, 1)) (k : xV l G fr wd M (pc + 1) L (.int (x >>> (y &&& 31)) :: st) h Q) : xV l G fr wd M pc L (.int y :: .int x :: st) h Q :=
  xgo k (fun p e R s m args below meth c H locs cells slots ls Qw C hR hl kk => lv_ishr C.1 C.2.1 hd (kk ls hl))
theorem x_idiv {x y : Int32} (hd : decode (xMc M) pc = .ok (.idiv, 1)) (hne : ¬ y = 0) (k : xV l G fr wd M (pc + 1) L (.int (x / y) :: st) h Q) : xV l G fr wd M pc L (.int y :: .int x :: st) h Q :=
  xgo k (fun p e R s m args below meth c H locs cells slots ls Qw C hR hl kk => lv_idiv C.1 C.2.1 hd hne (kk ls hl))
theorem x_irem {x y : Int32} (hd : decode (xMc M) pc = .ok (.irem, 1)) (hne : ¬ y = 0) (k : xV l G fr wd M (pc + 1) L (.int (x - x / y * y) :: st) h Q) : xV l G fr wd M pc L (.int y :: .int x :: st) h Q :=
  xgo k (fun p e R s m args below meth c H locs cells slots ls Qw C hR hl kk => lv_irem C.1 C.2.1 hd hne (kk ls hl))
theorem x_ineg {x : Int32} (hd : decode (xMc M) pc = .ok (.ineg, 1)) (k : xV l G fr wd M (pc + 1) L (.int (-x) :: st) h Q) : xV l G fr wd M pc L (.int x :: st) h Q :=
  xgo k (fun p e R s m args below meth c H locs cells slots ls Qw C hR hl kk => lv_ineg C.1 C.2.1 hd (kk ls hl))
theorem x_ladd {x y : Int64} (hd : decode (xMc M) pc = .ok (.ladd, 1)) (k : xV l G fr wd M (pc + 1) L (.long (x + y) :: st) h Q) : xV l G fr wd M pc L (.long y :: .long x :: st) h Q :=
  xgo k (fun p e R s m args below meth c H locs cells slots ls Qw C hR hl kk => lv_ladd C.1 C.2.1 hd (kk ls hl))
theorem x_lsub {x y : Int64} (hd : decode (xMc M) pc = .ok (.lsub, 1)) (k : xV l G fr wd M (pc + 1) L (.long (x - y) :: st) h Q) : xV l G fr wd M pc L (.long y :: .long x :: st) h Q :=
  xgo k (fun p e R s m args below meth c H locs cells slots ls Qw C hR hl kk => lv_lsub C.1 C.2.1 hd (kk ls hl))
theorem x_lmul {x y : Int64} (hd : decode (xMc M) pc = .ok (.lmul, 1)) (k : xV l G fr wd M (pc + 1) L (.long (x * y) :: st) h Q) : xV l G fr wd M pc L (.long y :: .long x :: st) h Q :=
  xgo k (fun p e R s m args below meth c H locs cells slots ls Qw C hR hl kk => lv_lmul C.1 C.2.1 hd (kk ls hl))
theorem x_land {x y : Int64} (hd : decode (xMc M) pc = .ok (.land, 1)) (k : xV l G fr wd M (pc + 1) L (.long (x &&& y) :: st) h Q) : xV l G fr wd M pc L (.long y :: .long x :: st) h Q :=
  xgo k (fun p e R s m args below meth c H locs cells slots ls Qw C hR hl kk => lv_land C.1 C.2.1 hd (kk ls hl))
theorem x_lor {x y : Int64} (hd : decode (xMc M) pc = .ok (.lor, 1)) (k : xV l G fr wd M (pc + 1) L (.long (x ||| y) :: st) h Q) : xV l G fr wd M pc L (.long y :: .long x :: st) h Q :=
  xgo k (fun p e R s m args below meth c H locs cells slots ls Qw C hR hl kk => lv_lor C.1 C.2.1 hd (kk ls hl))
theorem x_lxor {x y : Int64} (hd : decode (xMc M) pc = .ok (.lxor, 1)) (k : xV l G fr wd M (pc + 1) L (.long (x ^^^ y) :: st) h Q) : xV l G fr wd M pc L (.long y :: .long x :: st) h Q :=
  xgo k (fun p e R s m args below meth c H locs cells slots ls Qw C hR hl kk => lv_lxor C.1 C.2.1 hd (kk ls hl))
theorem x_ldiv {x y : Int64} (hd : decode (xMc M) pc = .ok (.ldiv, 1)) (hne : ¬ y = 0) (k : xV l G fr wd M (pc + 1) L (.long (x / y) :: st) h Q) : xV l G fr wd M pc L (.long y :: .long x :: st) h Q :=
  xgo k (fun p e R s m args below meth c H locs cells slots ls Qw C hR hl kk => lv_ldiv C.1 C.2.1 hd hne (kk ls hl))
theorem x_lrem {x y : Int64} (hd : decode (xMc M) pc = .ok (.lrem, 1)) (hne : ¬ y = 0) (k : xV l G fr wd M (pc + 1) L (.long (x - x / y * y) :: st) h Q) : xV l G fr wd M pc L (.long y :: .long x :: st) h Q :=
  xgo k (fun p e R s m args below meth c H locs cells slots ls Qw C hR hl kk => lv_lrem C.1 C.2.1 hd hne (kk ls hl))
theorem x_lneg {x : Int64} (hd : decode (xMc M) pc = .ok (.lneg, 1)) (k : xV l G fr wd M (pc + 1) L (.long (-x) :: st) h Q) : xV l G fr wd M pc L (.long x :: st) h Q :=
  xgo k (fun p e R s m args below meth c H locs cells slots ls Qw C hR hl kk => lv_lneg C.1 C.2.1 hd (kk ls hl))
theorem x_lshl {x : Int64} {y : Int32} (hd : decode (xMc M) pc = .ok (.lshl, 1)) (k : xV l G fr wd M (pc + 1) L (.long (x <<< (y.toInt64 &&& 63)) :: st) h Q) : xV l G fr wd M pc L (.int y :: .long x :: st) h Q :=
  xgo k (fun p e R s m args below meth c H locs cells slots ls Qw C hR hl kk => lv_lshl C.1 C.2.1 hd rfl (kk ls hl))
theorem x_lshr {x : Int64} {y : Int32} (hd : decode (xMc M) pc = .ok (.lshr, 1)) (k : xV l G fr wd M (pc + 1) L (.long (x >>> (y.toInt64 &&& 63)) :: st) h Q) : xV l G fr wd M pc L (.int y :: .long x :: st) h Q :=
  xgo k (fun p e R s m args below meth c H locs cells slots ls Qw C hR hl kk => lv_lshr C.1 C.2.1 hd rfl (kk ls hl))
theorem x_iushr {x y : Int32} (hd : decode (xMc M) pc = .ok (.iushr, 1)) (k : xV l G fr wd M (pc + 1) L (.int (x.toUInt32 >>> (y.toUInt32 &&& Int32.toUInt32 31)).toInt32 :: st) h Q) : xV l G fr wd M pc L (.int y :: .int x :: st) h Q :=
  xgo k (fun p e R s m args below meth c H locs cells slots ls Qw C hR hl kk => lv_iushr C.1 C.2.1 hd rfl (kk ls hl))
theorem x_i2l {x : Int32} (hd : decode (xMc M) pc = .ok (.i2l, 1)) (k : xV l G fr wd M (pc + 1) L (.long x.toInt64 :: st) h Q) : xV l G fr wd M pc L (.int x :: st) h Q :=
  xgo k (fun p e R s m args below meth c H locs cells slots ls Qw C hR hl kk => lv_i2l C.1 C.2.1 hd rfl (kk ls hl))
theorem x_l2i {x : Int64} (hd : decode (xMc M) pc = .ok (.l2i, 1)) (k : xV l G fr wd M (pc + 1) L (.int x.toInt32 :: st) h Q) : xV l G fr wd M pc L (.long x :: st) h Q :=
  xgo k (fun p e R s m args below meth c H locs cells slots ls Qw C hR hl kk => lv_l2i C.1 C.2.1 hd rfl (kk ls hl))
theorem x_i2b {x : Int32} (hd : decode (xMc M) pc = .ok (.i2b, 1)) (k : xV l G fr wd M (pc + 1) L (.int x.toInt8.toInt32 :: st) h Q) : xV l G fr wd M pc L (.int x :: st) h Q :=
  xgo k (fun p e R s m args below meth c H locs cells slots ls Qw C hR hl kk => lv_i2b C.1 C.2.1 hd rfl (kk ls hl))
theorem x_lcmp {x y : Int64} (hd : decode (xMc M) pc = .ok (.lcmp, 1)) (k : xV l G fr wd M (pc + 1) L (.int (lg_cmp x y) :: st) h Q) : xV l G fr wd M pc L (.long y :: .long x :: st) h Q :=
  xgo k (fun p e R s m args below meth c H locs cells slots ls Qw C hR hl kk => W.lcmp C.1 C.2.1 hd (kk ls hl))
theorem x_dup {va : Value} (hd : decode (xMc M) pc = .ok (.dup, 1)) (hva : va.category = 1) (k : xV l G fr wd M (pc + 1) L (va :: va :: st) h Q) : xV l G fr wd M pc L (va :: st) h Q :=
  xgo k (fun p e R s m args below meth c H locs cells slots ls Qw C hR hl kk => lv_dup C.1 C.2.1 hd hva (kk ls hl))
theorem x_pop {va : Value} (hd : decode (xMc M) pc = .ok (.pop, 1)) (hva : va.category = 1) (k : xV l G fr wd M (pc + 1) L st h Q) : xV l G fr wd M pc L (va :: st) h Q :=
  xgo k (fun p e R s m args below meth c H locs cells slots ls Qw C hR hl kk => lv_pop C.1 C.2.1 hd hva (kk ls hl))
theorem x_dup_x1 {va vb : Value} (hd : decode (xMc M) pc = .ok (.dup_x1, 1)) (hva : va.category = 1) (hvb : vb.category = 1) (k : xV l G fr wd M (pc + 1) L (va :: vb :: va :: st) h Q) : xV l G fr wd M pc L (va :: vb :: st) h Q :=
  xgo k (fun p e R s m args below meth c H locs cells slots ls Qw C hR hl kk => lv_dup_x1 C.1 C.2.1 hd hva hvb (kk ls hl))
theorem x_dup2 {va vb : Value} (hd : decode (xMc M) pc = .ok (.dup2, 1)) (hva : va.category = 1) (hvb : vb.category = 1) (k : xV l G fr wd M (pc + 1) L (va :: vb :: va :: vb :: st) h Q) : xV l G fr wd M pc L (va :: vb :: st) h Q :=
  xgo k (fun p e R s m args below meth c H locs cells slots ls Qw C hR hl kk => lv_dup2_11 C.1 C.2.1 hd hva hvb (kk ls hl))
theorem x_dup_x2 {va vb vd : Value} (hd : decode (xMc M) pc = .ok (.dup_x2, 1)) (hva : va.category = 1) (hvb : vb.category = 1) (hvd : vd.category = 1) (k : xV l G fr wd M (pc + 1) L (va :: vb :: vd :: va :: st) h Q) : xV l G fr wd M pc L (va :: vb :: vd :: st) h Q :=
  xgo k (fun p e R s m args below meth c H locs cells slots ls Qw C hR hl kk => lv_dup_x2 C.1 C.2.1 hd hva hvb hvd (kk ls hl))
theorem x_if_eq_t {x : Int32} {off : Int} {tgt : Nat} (hd : decode (xMc M) pc = .ok (.ifCond .eq off, 3)) (ht : (pc : Int) + off = (tgt : Int)) (hc : x = 0) (k : xV l G fr wd M tgt L st h Q) : xV l G fr wd M pc L (.int x :: st) h Q :=
  xgo k (fun p e R s m args below meth c H locs cells slots ls Qw C hR hl kk => lv_if_eq C.1 C.2.1 hd ht (fun _ => kk ls hl) (fun z => absurd hc z))
theorem x_if_eq_f {x : Int32} {off : Int} (tgt : Nat) (hd : decode (xMc M) pc = .ok (.ifCond .eq off, 3)) (ht : (pc : Int) + off = (tgt : Int)) (hc : ¬ (x = 0)) (k : xV l G fr wd M (pc + 3) L st h Q) : xV l G fr wd M pc L (.int x :: st) h Q :=
  xgo k (fun p e R s m args below meth c H locs cells slots ls Qw C hR hl kk => lv_if_eq C.1 C.2.1 hd ht (fun z => absurd z hc) (fun _ => kk ls hl))
theorem x_if_eq {x : Int32} {off : Int} {tgt : Nat} (hd : decode (xMc M) pc = .ok (.ifCond .eq off, 3)) (ht : (pc : Int) + off = (tgt : Int)) (kt : x = 0 → xV l G fr wd M tgt L st h Q) (kf : ¬ (x = 0) → xV l G fr wd M (pc + 3) L st h Q) : xV l G fr wd M pc L (.int x :: st) h Q := by
  by_cases hc : x = 0
  · exact x_if_eq_t hd ht hc (kt hc)
  · exact x_if_eq_f tgt hd ht hc (kf hc)
theorem x_icmp_eq_t {x y : Int32} {off : Int} {tgt : Nat} (hd : decode (xMc M) pc = .ok (.if_icmp .eq off, 3)) (ht : (pc : Int) + off = (tgt : Int)) (hc : x = y) (k : xV l G fr wd M tgt L st h Q) : xV l G fr wd M pc L (.int y :: .int x :: st) h Q :=
  xgo k (fun p e R s m args below meth c H locs cells slots ls Qw C hR hl kk => lv_icmp_eq C.1 C.2.1 hd ht (fun _ => kk ls hl) (fun z => absurd hc z))
theorem x_icmp_eq_f {x y : Int32} {off : Int} (tgt : Nat) (hd : decode (xMc M) pc = .ok (.if_icmp .eq off, 3)) (ht : (pc : Int) + off = (tgt : Int)) (hc : ¬ (x = y)) (k : xV l G fr wd M (pc + 3) L st h Q) : xV l G fr wd M pc L (.int y :: .int x :: st) h Q :=
  xgo k (fun p e R s m args below meth c H locs cells slots ls Qw C hR hl kk => lv_icmp_eq C.1 C.2.1 hd ht (fun z => absurd z hc) (fun _ => kk ls hl))
theorem x_icmp_eq {x y : Int32} {off : Int} {tgt : Nat} (hd : decode (xMc M) pc = .ok (.if_icmp .eq off, 3)) (ht : (pc : Int) + off = (tgt : Int)) (kt : x = y → xV l G fr wd M tgt L st h Q) (kf : ¬ (x = y) → xV l G fr wd M (pc + 3) L st h Q) : xV l G fr wd M pc L (.int y :: .int x :: st) h Q := by
  by_cases hc : x = y
  · exact x_icmp_eq_t hd ht hc (kt hc)
  · exact x_icmp_eq_f tgt hd ht hc (kf hc)
theorem x_if_ne_t {x : Int32} {off : Int} {tgt : Nat} (hd : decode (xMc M) pc = .ok (.ifCond .ne off, 3)) (ht : (pc : Int) + off = (tgt : Int)) (hc : ¬ x = 0) (k : xV l G fr wd M tgt L st h Q) : xV l G fr wd M pc L (.int x :: st) h Q :=
  xgo k (fun p e R s m args below meth c H locs cells slots ls Qw C hR hl kk => lv_if_ne C.1 C.2.1 hd ht (fun _ => kk ls hl) (fun z => absurd z hc))
theorem x_if_ne_f {x : Int32} {off : Int} (tgt : Nat) (hd : decode (xMc M) pc = .ok (.ifCond .ne off, 3)) (ht : (pc : Int) + off = (tgt : Int)) (hc : x = 0) (k : xV l G fr wd M (pc + 3) L st h Q) : xV l G fr wd M pc L (.int x :: st) h Q :=
  xgo k (fun p e R s m args below meth c H locs cells slots ls Qw C hR hl kk => lv_if_ne C.1 C.2.1 hd ht (fun z => absurd hc z) (fun _ => kk ls hl))
theorem x_if_ne {x : Int32} {off : Int} {tgt : Nat} (hd : decode (xMc M) pc = .ok (.ifCond .ne off, 3)) (ht : (pc : Int) + off = (tgt : Int)) (kt : ¬ x = 0 → xV l G fr wd M tgt L st h Q) (kf : x = 0 → xV l G fr wd M (pc + 3) L st h Q) : xV l G fr wd M pc L (.int x :: st) h Q := by
  by_cases hc : x = 0
  · exact x_if_ne_f tgt hd ht hc (kf hc)
  · exact x_if_ne_t hd ht hc (kt hc)
theorem x_icmp_ne_t {x y : Int32} {off : Int} {tgt : Nat} (hd : decode (xMc M) pc = .ok (.if_icmp .ne off, 3)) (ht : (pc : Int) + off = (tgt : Int)) (hc : ¬ x = y) (k : xV l G fr wd M tgt L st h Q) : xV l G fr wd M pc L (.int y :: .int x :: st) h Q :=
  xgo k (fun p e R s m args below meth c H locs cells slots ls Qw C hR hl kk => lv_icmp_ne C.1 C.2.1 hd ht (fun _ => kk ls hl) (fun z => absurd z hc))
theorem x_icmp_ne_f {x y : Int32} {off : Int} (tgt : Nat) (hd : decode (xMc M) pc = .ok (.if_icmp .ne off, 3)) (ht : (pc : Int) + off = (tgt : Int)) (hc : x = y) (k : xV l G fr wd M (pc + 3) L st h Q) : xV l G fr wd M pc L (.int y :: .int x :: st) h Q :=
  xgo k (fun p e R s m args below meth c H locs cells slots ls Qw C hR hl kk => lv_icmp_ne C.1 C.2.1 hd ht (fun z => absurd hc z) (fun _ => kk ls hl))
theorem x_icmp_ne {x y : Int32} {off : Int} {tgt : Nat} (hd : decode (xMc M) pc = .ok (.if_icmp .ne off, 3)) (ht : (pc : Int) + off = (tgt : Int)) (kt : ¬ x = y → xV l G fr wd M tgt L st h Q) (kf : x = y → xV l G fr wd M (pc + 3) L st h Q) : xV l G fr wd M pc L (.int y :: .int x :: st) h Q := by
  by_cases hc : x = y
  · exact x_icmp_ne_f tgt hd ht hc (kf hc)
  · exact x_icmp_ne_t hd ht hc (kt hc)
theorem x_if_lt_t {x : Int32} {off : Int} {tgt : Nat} (hd : decode (xMc M) pc = .ok (.ifCond .lt off, 3)) (ht : (pc : Int) + off = (tgt : Int)) (hc : x < 0) (k : xV l G fr wd M tgt L st h Q) : xV l G fr wd M pc L (.int x :: st) h Q :=
  xgo k (fun p e R s m args below meth c H locs cells slots ls Qw C hR hl kk => lv_if_lt C.1 C.2.1 hd ht (fun _ => kk ls hl) (fun z => absurd hc z))
theorem x_if_lt_f {x : Int32} {off : Int} (tgt : Nat) (hd : decode (xMc M) pc = .ok (.ifCond .lt off, 3)) (ht : (pc : Int) + off = (tgt : Int)) (hc : ¬ (x < 0)) (k : xV l G fr wd M (pc + 3) L st h Q) : xV l G fr wd M pc L (.int x :: st) h Q :=
  xgo k (fun p e R s m args below meth c H locs cells slots ls Qw C hR hl kk => lv_if_lt C.1 C.2.1 hd ht (fun z => absurd z hc) (fun _ => kk ls hl))
theorem x_if_lt {x : Int32} {off : Int} {tgt : Nat} (hd : decode (xMc M) pc = .ok (.ifCond .lt off, 3)) (ht : (pc : Int) + off = (tgt : Int)) (kt : x < 0 → xV l G fr wd M tgt L st h Q) (kf : ¬ (x < 0) → xV l G fr wd M (pc + 3) L st h Q) : xV l G fr wd M pc L (.int x :: st) h Q := by
  by_cases hc : x < 0
  · exact x_if_lt_t hd ht hc (kt hc)
  · exact x_if_lt_f tgt hd ht hc (kf hc)
theorem x_icmp_lt_t {x y : Int32} {off : Int} {tgt : Nat} (hd : decode (xMc M) pc = .ok (.if_icmp .lt off, 3)) (ht : (pc : Int) + off = (tgt : Int)) (hc : x < y) (k : xV l G fr wd M tgt L st h Q) : xV l G fr wd M pc L (.int y :: .int x :: st) h Q :=
  xgo k (fun p e R s m args below meth c H locs cells slots ls Qw C hR hl kk => lv_icmp_lt C.1 C.2.1 hd ht (fun _ => kk ls hl) (fun z => absurd hc z))
theorem x_icmp_lt_f {x y : Int32} {off : Int} (tgt : Nat) (hd : decode (xMc M) pc = .ok (.if_icmp .lt off, 3)) (ht : (pc : Int) + off = (tgt : Int)) (hc : ¬ (x < y)) (k : xV l G fr wd M (pc + 3) L st h Q) : xV l G fr wd M pc L (.int y :: .int x :: st) h Q :=
  xgo k (fun p e R s m args below meth c H locs cells slots ls Qw C hR hl kk => lv_icmp_lt C.1 C.2.1 hd ht (fun z => absurd z hc) (fun _ => kk ls hl))
theorem x_icmp_lt {x y : Int32} {off : Int} {tgt : Nat} (hd : decode (xMc M) pc = .ok (.if_icmp .lt off, 3)) (ht : (pc : Int) + off = (tgt : Int)) (kt : x < y → xV l G fr wd M tgt L st h Q) (kf : ¬ (x < y) → xV l G fr wd M (pc + 3) L st h Q) : xV l G fr wd M pc L (.int y :: .int x :: st) h Q := by
  by_cases hc : x < y
  · exact x_icmp_lt_t hd ht hc (kt hc)
  · exact x_icmp_lt_f tgt hd ht hc (kf hc)
theorem x_if_ge_t {x : Int32} {off : Int} {tgt : Nat} (hd : decode (xMc M) pc = .ok (.ifCond .ge off, 3)) (ht : (pc : Int) + off = (tgt : Int)) (hc : 0 ≤ x) (k : xV l G fr wd M tgt L st h Q) : xV l G fr wd M pc L (.int x :: st) h Q :=
  xgo k (fun p e R s m args below meth c H locs cells slots ls Qw C hR hl kk => lv_if_ge C.1 C.2.1 hd ht (fun _ => kk ls hl) (fun z => absurd hc z))
theorem x_if_ge_f {x : Int32} {off : Int} (tgt : Nat) (hd : decode (xMc M) pc = .ok (.ifCond .ge off, 3)) (ht : (pc : Int) + off = (tgt : Int)) (hc : ¬ (0 ≤ x)) (k : xV l G fr wd M (pc + 3) L st h Q) : xV l G fr wd M pc L (.int x :: st) h Q :=
  xgo k (fun p e R s m args below meth c H locs cells slots ls Qw C hR hl kk => lv_if_ge C.1 C.2.1 hd ht (fun z => absurd z hc) (fun _ => kk ls hl))
theorem x_if_ge {x : Int32} {off : Int} {tgt : Nat} (hd : decode (xMc M) pc = .ok (.ifCond .ge off, 3)) (ht : (pc : Int) + off = (tgt : Int)) (kt : 0 ≤ x → xV l G fr wd M tgt L st h Q) (kf : ¬ (0 ≤ x) → xV l G fr wd M (pc + 3) L st h Q) : xV l G fr wd M pc L (.int x :: st) h Q := by
  by_cases hc : 0 ≤ x
  · exact x_if_ge_t hd ht hc (kt hc)
  · exact x_if_ge_f tgt hd ht hc (kf hc)
theorem x_icmp_ge_t {x y : Int32} {off : Int} {tgt : Nat} (hd : decode (xMc M) pc = .ok (.if_icmp .ge off, 3)) (ht : (pc : Int) + off = (tgt : Int)) (hc : y ≤ x) (k : xV l G fr wd M tgt L st h Q) : xV l G fr wd M pc L (.int y :: .int x :: st) h Q :=
  xgo k (fun p e R s m args below meth c H locs cells slots ls Qw C hR hl kk => lv_icmp_ge C.1 C.2.1 hd ht (fun _ => kk ls hl) (fun z => absurd hc z))
theorem x_icmp_ge_f {x y : Int32} {off : Int} (tgt : Nat) (hd : decode (xMc M) pc = .ok (.if_icmp .ge off, 3)) (ht : (pc : Int) + off = (tgt : Int)) (hc : ¬ (y ≤ x)) (k : xV l G fr wd M (pc + 3) L st h Q) : xV l G fr wd M pc L (.int y :: .int x :: st) h Q :=
  xgo k (fun p e R s m args below meth c H locs cells slots ls Qw C hR hl kk => lv_icmp_ge C.1 C.2.1 hd ht (fun z => absurd z hc) (fun _ => kk ls hl))
theorem x_icmp_ge {x y : Int32} {off : Int} {tgt : Nat} (hd : decode (xMc M) pc = .ok (.if_icmp .ge off, 3)) (ht : (pc : Int) + off = (tgt : Int)) (kt : y ≤ x → xV l G fr wd M tgt L st h Q) (kf : ¬ (y ≤ x) → xV l G fr wd M (pc + 3) L st h Q) : xV l G fr wd M pc L (.int y :: .int x :: st) h Q := by
  by_cases hc : y ≤ x
  · exact x_icmp_ge_t hd ht hc (kt hc)
  · exact x_icmp_ge_f tgt hd ht hc (kf hc)
theorem x_if_gt_t {x : Int32} {off : Int} {tgt : Nat} (hd : decode (xMc M) pc = .ok (.ifCond .gt off, 3)) (ht : (pc : Int) + off = (tgt : Int)) (hc : 0 < x) (k : xV l G fr wd M tgt L st h Q) : xV l G fr wd M pc L (.int x :: st) h Q :=
  xgo k (fun p e R s m args below meth c H locs cells slots ls Qw C hR hl kk => lv_if_gt C.1 C.2.1 hd ht (fun _ => kk ls hl) (fun z => absurd hc z))
theorem x_if_gt_f {x : Int32} {off : Int} (tgt : Nat) (hd : decode (xMc M) pc = .ok (.ifCond .gt off, 3)) (ht : (pc : Int) + off = (tgt : Int)) (hc : ¬ (0 < x)) (k : xV l G fr wd M (pc + 3) L st h Q) : xV l G fr wd M pc L (.int x :: st) h Q :=
  xgo k (fun p e R s m args below meth c H locs cells slots ls Qw C hR hl kk => lv_if_gt C.1 C.2.1 hd ht (fun z => absurd z hc) (fun _ => kk ls hl))
theorem x_if_gt {x : Int32} {off : Int} {tgt : Nat} (hd : decode (xMc M) pc = .ok (.ifCond .gt off, 3)) (ht : (pc : Int) + off = (tgt : Int)) (kt : 0 < x → xV l G fr wd M tgt L st h Q) (kf : ¬ (0 < x) → xV l G fr wd M (pc + 3) L st h Q) : xV l G fr wd M pc L (.int x :: st) h Q := by
  by_cases hc : 0 < x
  · exact x_if_gt_t hd ht hc (kt hc)
  · exact x_if_gt_f tgt hd ht hc (kf hc)
theorem x_icmp_gt_t {x y : Int32} {off : Int} {tgt : Nat} (hd : decode (xMc M) pc = .ok (.if_icmp .gt off, 3)) (ht : (pc : Int) + off = (tgt : Int)) (hc : y < x) (k : xV l G fr wd M tgt L st h Q) : xV l G fr wd M pc L (.int y :: .int x :: st) h Q :=
  xgo k (fun p e R s m args below meth c H locs cells slots ls Qw C hR hl kk => lv_icmp_gt C.1 C.2.1 hd ht (fun _ => kk ls hl) (fun z => absurd hc z))
theorem x_icmp_gt_f {x y : Int32} {off : Int} (tgt : Nat) (hd : decode (xMc M) pc = .ok (.if_icmp .gt off, 3)) (ht : (pc : Int) + off = (tgt : Int)) (hc : ¬ (y < x)) (k : xV l G fr wd M (pc + 3) L st h Q) : xV l G fr wd M pc L (.int y :: .int x :: st) h Q :=
  xgo k (fun p e R s m args below meth c H locs cells slots ls Qw C hR hl kk => lv_icmp_gt C.1 C.2.1 hd ht (fun z => absurd z hc) (fun _ => kk ls hl))
theorem x_icmp_gt {x y : Int32} {off : Int} {tgt : Nat} (hd : decode (xMc M) pc = .ok (.if_icmp .gt off, 3)) (ht : (pc : Int) + off = (tgt : Int)) (kt : y < x → xV l G fr wd M tgt L st h Q) (kf : ¬ (y < x) → xV l G fr wd M (pc + 3) L st h Q) : xV l G fr wd M pc L (.int y :: .int x :: st) h Q := by
  by_cases hc : y < x
  · exact x_icmp_gt_t hd ht hc (kt hc)
  · exact x_icmp_gt_f tgt hd ht hc (kf hc)
theorem x_if_le_t {x : Int32} {off : Int} {tgt : Nat} (hd : decode (xMc M) pc = .ok (.ifCond .le off, 3)) (ht : (pc : Int) + off = (tgt : Int)) (hc : x ≤ 0) (k : xV l G fr wd M tgt L st h Q) : xV l G fr wd M pc L (.int x :: st) h Q :=
  xgo k (fun p e R s m args below meth c H locs cells slots ls Qw C hR hl kk => lv_if_le C.1 C.2.1 hd ht (fun _ => kk ls hl) (fun z => absurd hc z))
theorem x_if_le_f {x : Int32} {off : Int} (tgt : Nat) (hd : decode (xMc M) pc = .ok (.ifCond .le off, 3)) (ht : (pc : Int) + off = (tgt : Int)) (hc : ¬ (x ≤ 0)) (k : xV l G fr wd M (pc + 3) L st h Q) : xV l G fr wd M pc L (.int x :: st) h Q :=
  xgo k (fun p e R s m args below meth c H locs cells slots ls Qw C hR hl kk => lv_if_le C.1 C.2.1 hd ht (fun z => absurd z hc) (fun _ => kk ls hl))
theorem x_if_le {x : Int32} {off : Int} {tgt : Nat} (hd : decode (xMc M) pc = .ok (.ifCond .le off, 3)) (ht : (pc : Int) + off = (tgt : Int)) (kt : x ≤ 0 → xV l G fr wd M tgt L st h Q) (kf : ¬ (x ≤ 0) → xV l G fr wd M (pc + 3) L st h Q) : xV l G fr wd M pc L (.int x :: st) h Q := by
  by_cases hc : x ≤ 0
  · exact x_if_le_t hd ht hc (kt hc)
  · exact x_if_le_f tgt hd ht hc (kf hc)
theorem x_icmp_le_t {x y : Int32} {off : Int} {tgt : Nat} (hd : decode (xMc M) pc = .ok (.if_icmp .le off, 3)) (ht : (pc : Int) + off = (tgt : Int)) (hc : x ≤ y) (k : xV l G fr wd M tgt L st h Q) : xV l G fr wd M pc L (.int y :: .int x :: st) h Q :=
  xgo k (fun p e R s m args below meth c H locs cells slots ls Qw C hR hl kk => lv_icmp_le C.1 C.2.1 hd ht (fun _ => kk ls hl) (fun z => absurd hc z))
theorem x_icmp_le_f {x y : Int32} {off : Int} (tgt : Nat) (hd : decode (xMc M) pc = .ok (.if_icmp .le off, 3)) (ht : (pc : Int) + off = (tgt : Int)) (hc : ¬ (x ≤ y)) (k : xV l G fr wd M (pc + 3) L st h Q) : xV l G fr wd M pc L (.int y :: .int x :: st) h Q :=
  xgo k (fun p e R s m args below meth c H locs cells slots ls Qw C hR hl kk => lv_icmp_le C.1 C.2.1 hd ht (fun z => absurd z hc) (fun _ => kk ls hl))
theorem x_icmp_le {x y : Int32} {off : Int} {tgt : Nat} (hd : decode (xMc M) pc = .ok (.if_icmp .le off, 3)) (ht : (pc : Int) + off = (tgt : Int)) (kt : x ≤ y → xV l G fr wd M tgt L st h Q) (kf : ¬ (x ≤ y) → xV l G fr wd M (pc + 3) L st h Q) : xV l G fr wd M pc L (.int y :: .int x :: st) h Q := by
  by_cases hc : x ≤ y
  · exact x_icmp_le_t hd ht hc (kt hc)
  · exact x_icmp_le_f tgt hd ht hc (kf hc)
theorem x_acmp_eq_t {rx ry : Option Nat} {off : Int} {tgt : Nat} (hd : decode (xMc M) pc = .ok (.if_acmp .eq off, 3)) (ht : (pc : Int) + off = (tgt : Int)) (hc : rx = ry) (k : xV l G fr wd M tgt L st h Q) : xV l G fr wd M pc L (va_rf ry :: va_rf rx :: st) h Q :=
  xgo k (fun p e R s m args below meth c H locs cells slots ls Qw C hR hl kk => lv_acmp_eq C.1 C.2.1 hd ht (fun _ => kk ls hl) (fun z => absurd hc z))
theorem x_acmp_eq_f {rx ry : Option Nat} {off : Int} (tgt : Nat) (hd : decode (xMc M) pc = .ok (.if_acmp .eq off, 3)) (ht : (pc : Int) + off = (tgt : Int)) (hc : ¬ (rx = ry)) (k : xV l G fr wd M (pc + 3) L st h Q) : xV l G fr wd M pc L (va_rf ry :: va_rf rx :: st) h Q :=
  xgo k (fun p e R s m args below meth c H locs cells slots ls Qw C hR hl kk => lv_acmp_eq C.1 C.2.1 hd ht (fun z => absurd z hc) (fun _ => kk ls hl))
theorem x_acmp_eq {rx ry : Option Nat} {off : Int} {tgt : Nat} (hd : decode (xMc M) pc = .ok (.if_acmp .eq off, 3)) (ht : (pc : Int) + off = (tgt : Int)) (kt : rx = ry → xV l G fr wd M tgt L st h Q) (kf : ¬ (rx = ry) → xV l G fr wd M (pc + 3) L st h Q) : xV l G fr wd M pc L (va_rf ry :: va_rf rx :: st) h Q := by
  by_cases hc : rx = ry
  · exact x_acmp_eq_t hd ht hc (kt hc)
  · exact x_acmp_eq_f tgt hd ht hc (kf hc)
theorem x_acmp_ne_t {rx ry : Option Nat} {off : Int} {tgt : Nat} (hd : decode (xMc M) pc = .ok (.if_acmp .ne off, 3)) (ht : (pc : Int) + off = (tgt : Int)) (hc : ¬ rx = ry) (k : xV l G fr wd M tgt L st h Q) : xV l G fr wd M pc L (va_rf ry :: va_rf rx :: st) h Q :=
  xgo k (fun p e R s m args below meth c H locs cells slots ls Qw C hR hl kk => lv_acmp_ne C.1 C.2.1 hd ht (fun _ => kk ls hl) (fun z => absurd z hc))
theorem x_acmp_ne_f {rx ry : Option Nat} {off : Int} (tgt : Nat) (hd : decode (xMc M) pc = .ok (.if_acmp .ne off, 3)) (ht : (pc : Int) + off = (tgt : Int)) (hc : rx = ry) (k : xV l G fr wd M (pc + 3) L st h Q) : xV l G fr wd M pc L (va_rf ry :: va_rf rx :: st) h Q :=
  xgo k (fun p e R s m args below meth c H locs cells slots ls Qw C hR hl kk => lv_acmp_ne C.1 C.2.1 hd ht (fun z => absurd hc z) (fun _ => kk ls hl))
theorem x_acmp_ne {rx ry : Option Nat} {off : Int} {tgt : Nat} (hd : decode (xMc M) pc = .ok (.if_acmp .ne off, 3)) (ht : (pc : Int) + off = (tgt : Int)) (kt : ¬ rx = ry → xV l G fr wd M tgt L st h Q) (kf : rx = ry → xV l G fr wd M (pc + 3) L st h Q) : xV l G fr wd M pc L (va_rf ry :: va_rf rx :: st) h Q := by
  by_cases hc : rx = ry
  · exact x_acmp_ne_f tgt hd ht hc (kf hc)
  · exact x_acmp_ne_t hd ht hc (kt hc)
theorem x_goto {off : Int} {tgt : Nat} (hd : decode (xMc M) pc = .ok (.goto off, 3)) (ht : (pc : Int) + off = (tgt : Int)) (k : xV l G fr wd M tgt L st h Q) : xV l G fr wd M pc L st h Q :=
  xgo k (fun p e R s m args below meth c H locs cells slots ls Qw C hR hl kk => lv_goto C.1 C.2.1 hd ht (kk ls hl))
theorem x_ifnonnull {x : Nat} {off : Int} {tgt : Nat} (hd : decode (xMc M) pc = .ok (.ifnonnull off, 3)) (ht : (pc : Int) + off = (tgt : Int)) (k : xV l G fr wd M tgt L st h Q) : xV l G fr wd M pc L (.ref x :: st) h Q :=
  xgo k (fun p e R s m args below meth c H locs cells slots ls Qw C hR hl kk => lv_ifnonnull C.1 C.2.1 hd ht (kk ls hl))
theorem x_ifnonnullN {off : Int} (hd : decode (xMc M) pc = .ok (.ifnonnull off, 3)) (k : xV l G fr wd M (pc + 3) L st h Q) : xV l G fr wd M pc L (.null :: st) h Q :=
  xgo k (fun p e R s m args below meth c H locs cells slots ls Qw C hR hl kk => lv_ifnonnullN C.1 C.2.1 hd (kk ls hl))
theorem x_ifnull {x : Nat} {off : Int} (hd : decode (xMc M) pc = .ok (.ifnull off, 3)) (k : xV l G fr wd M (pc + 3) L st h Q) : xV l G fr wd M pc L (.ref x :: st) h Q :=
  xgo k (fun p e R s m args below meth c H locs cells slots ls Qw C hR hl kk => lv_ifnull C.1 C.2.1 hd (kk ls hl))
theorem x_ifnullN {off : Int} {tgt : Nat} (hd : decode (xMc M) pc = .ok (.ifnull off, 3)) (ht : (pc : Int) + off = (tgt : Int)) (k : xV l G fr wd M tgt L st h Q) : xV l G fr wd M pc L (.null :: st) h Q :=
  xgo k (fun p e R s m args below meth c H locs cells slots ls Qw C hR hl kk => lv_ifnullN C.1 C.2.1 hd ht (kk ls hl))
theorem x_ifnonnullq {o : Option Nat} {off : Int} {tgt : Nat} (hd : decode (xMc M) pc = .ok (.ifnonnull off, 3)) (ht : (pc : Int) + off = (tgt : Int)) (kt : ∀ x, o = some x → xV l G fr wd M tgt L st h Q) (kf : o = none → xV l G fr wd M (pc + 3) L st h Q) : xV l G fr wd M pc L (va_rf o :: st) h Q := by
  cases o with
  | none => exact x_ifnonnullN hd (kf rfl)
  | some x => exact x_ifnonnull hd ht (kt x rfl)
theorem x_ifnullq {o : Option Nat} {off : Int} {tgt : Nat} (hd : decode (xMc M) pc = .ok (.ifnull off, 3)) (ht : (pc : Int) + off = (tgt : Int)) (kf : ∀ x, o = some x → xV l G fr wd M (pc + 3) L st h Q) (kt : o = none → xV l G fr wd M tgt L st h Q) : xV l G fr wd M pc L (va_rf o :: st) h Q := by
  cases o with
  | none => exact x_ifnullN hd ht (kt rfl)
  | some x => exact x_ifnull hd (kf x rfl)
theorem x_swOut {dflt lo hi : Int} {offs : Array Int} {len : Nat} {x : Int32} {tgt : Nat} (hd : decode (xMc M) pc = .ok (.tableswitch dflt lo hi offs, len)) (hx : x.toInt < lo ∨ hi < x.toInt) (ht : (pc : Int) + dflt = (tgt : Int)) (k : xV l G fr wd M tgt L st h Q) : xV l G fr wd M pc L (.int x :: st) h Q :=
  xgo k (fun p e R s m args below meth c H locs cells slots ls Qw C hR hl kk => lv_tableOut C.1 C.2.1 hd hx ht (kk ls hl))
theorem x_swIn {dflt lo hi : Int} {offs : Array Int} {len : Nat} {x : Int32} {off : Int} {tgt : Nat} (hd : decode (xMc M) pc = .ok (.tableswitch dflt lo hi offs, len)) (h1 : ¬ x.toInt < lo) (h2 : ¬ hi < x.toInt) (ho : offs[(x.toInt - lo).toNat]? = some off) (ht : (pc : Int) + off = (tgt : Int)) (k : xV l G fr wd M tgt L st h Q) : xV l G fr wd M pc L (.int x :: st) h Q :=
  xgo k (fun p e R s m args below meth c H locs cells slots ls Qw C hR hl kk => lv_tableIn C.1 C.2.1 hd h1 h2 ho ht (kk ls hl))
end XROWS

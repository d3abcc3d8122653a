/-- the callee's contract, where it returns -/
theorem xMet {l : Launch} {G : xG} {fr wd : Nat} {M : xM} {As : List Value} {h h1 : xH} {v : Option Value} (hpl : plainFor (xMn M) = true) (hh : xMh M = []) (hln : (lg_sl As).length ≤ xMl M)
    (x : ∀ (p : Program) (e : Env) (R : Room) (s : State) (m : MethodId) (args : Array Value) (below : List Frame) (meth : Method) (c : Code) (H : Heap) (locs : List Loc) (cells slots : Nat) (ls : Array Slot),
      xCx G M p s m meth c → xRep G h H → lv_has ls (xMl M) (lv_args 0 As) → (∀ q ∈ locs, xGz G ≤ q.base) → (xnx h1 - xnx h) + cells ≤ R.cells → (xsl h1 - xsl h) + slots ≤ R.slots → fr ≤ R.frames → wd ≤ R.locals →
      W p l e R s m args below meth c H locs cells slots (xPost G below args s (.inl v) h1 ((xnx h1 - xnx h) + cells) ((xsl h1 - xsl h) + slots)) (F0 m 0 ls [])) :
    Met l (xMn M) [Cond.code (xMn M) (xMc M) (xMl M) (xMr M)] { frames := fr, cells := xnx h1 - xnx h, slots := xsl h1 - xsl h, locals := wd } (fun a U => a = As.toArray ∧ xRep G h U.heap ∧ xKn G U) (fun _ _ o t => o = .returned v ∧ xRep G h1 t.heap) (xnx h1 - xnx h) (xsl h1 - xsl h) (fun q => xGz G ≤ q) := by
  refine MetFree.of_bodySF (code := xMc M) (maxLocals := xMl M) (ret := xMr M) hpl ?_ ?_
  · intro args s m hp hn
    obtain ⟨meth, c, h1, h2, h3, h4, h5, h6, -, -⟩ := Cond.code_spec hn (atoms_spec (ws := [Cond.code (xMn M) (xMc M) (xMl M) (xMr M)]) hp _ List.mem_cons_self)
    exact ⟨meth, c, h1, h2, h3, h4, h5, h6⟩
  · intro p e s m args below meth c s₁ B hml hv _
    obtain ⟨rfl, hR, hK⟩ := hv
    have hcode : (Cond.code (xMn M) (xMc M) (xMl M) (xMr M)).before As.toArray s = true := atoms_spec (ws := [Cond.code (xMn M) (xMc M) (xMl M) (xMr M)]) B.pre _ List.mem_cons_self
    have he := B.noHandlers hcode
    have he2 : c.exceptionTable.toList = [] := by simpa using he
    have hh0 : s₁.heap = s.heap := by rw [B.state]; rfl
    rw [lg_entry_eq]
    obtain ⟨t, a1, o, b1, b2, b3⟩ := x p e (headSpec [Cond.code (xMn M) (xMc M) (xMl M) (xMr M)] { frames := fr, cells := xnx h1 - xnx h, slots := xsl h1 - xsl h, locals := wd }).room s m _ below meth c s.heap [] 0 0 _ ⟨B.exec, B.bytes, hml, B.returns, B.notSynchronized, findClass_of_methodNamed B.named, (name_of_methodNamed B.named B.method).1, hK, by rw [he2, hh]; rfl⟩ hR (lv_entry As hln) (fun q hq => by cases hq) (Nat.le_refl _) (Nat.le_refl _) (Nat.le_refl _) (Nat.le_refl _) s₁ hh0 (Stand.of_body B)
    exact ⟨t, o, a1, b1, b2, ⟨b3.1, b3.2⟩⟩
theorem xblind {G : xG} {h : xH} {As : List Value} : FrameBlind (fun a U => a = As.toArray ∧ xRep G h U.heap ∧ xKn G U) := by
  intro a U g mk q
  exact ⟨q.1, q.2.1, xKn.moved (s := U) (U := U.calling g mk a) (State.WarmedH.refl U) q.2.2⟩
/-- a call that returns, at the walk's own height: mk runs, and hands v back -/
theorem xBackR {p : Program} {l : Launch} {e : Env} {R : Room} {s : State} {m : MethodId} {args : Array Value} {below : List Frame} {meth : Method} {c : Code} {T : State} {locs : List Loc} {cells slots : Nat} {G : xG} {fr' wd' : Nat} {M' : xM} {As : List Value} {h h1 : xH} {v : Option Value}
    (X : Stand p l e R s m args below meth c T locs cells slots) (hKs : xKn G s) (hpl : plainFor (xMn M') = true) (hh : xMh M' = []) (hln : (lg_sl As).length ≤ xMl M') 
    (hM : Met l (xMn M') [Cond.code (xMn M') (xMc M') (xMl M') (xMr M')] { frames := fr', cells := xnx h1 - xnx h, slots := xsl h1 - xsl h, locals := wd' } (fun a U => a = As.toArray ∧ xRep G h U.heap ∧ xKn G U) (fun _ _ o t => o = .returned v ∧ xRep G h1 t.heap) (xnx h1 - xnx h) (xsl h1 - xsl h) (fun q => xGz G ≤ q))
    (hw1 : Cond.code (xMn M') (xMc M') (xMl M') (xMr M') ∈ xTT) (hw2 : Cond.initialized (xMn M').cls ∈ xTT) (hR : xRep G h T.heap) (b1 : (xnx h1 - xnx h) + cells ≤ R.cells) (b2 : (xsl h1 - xsl h) + slots ≤ R.slots) (b3 : fr' + 1 ≤ R.frames) (b4 : 19 + xMl M' + wd' ≤ R.locals)
    {g : JFrame} {ig : Instr} {len : Nat} {mk : MethodId} (hg : g.method = m) (hsize : g.locals.size = c.maxLocals) (hdg : decode c.code g.pc = .ok (ig, len)) (hW : 2 * g.monitorRoom + (g.stack.map fun v => v.category).sum ≤ 8) (hn : T.methodNamed? (xMn M') = some mk) :
    ∃ (T' : State) (L' : List Loc), Stand p l e R s m args below meth c T' (locs ++ L') ((xnx h1 - xnx h) + cells) ((xsl h1 - xsl h) + slots) ∧ (∀ q ∈ L', xGz G ≤ q.base) ∧ xRep G h1 T'.heap ∧
      Steps p.tables e below (doInvoke e (T.setTop g) [] mk As.toArray).1 (T'.setTop { g with pc := g.pc + len, stack := v.toList ++ g.stack }) := by
  have hK : Back l R p e below s args (xMn M') len 8 (PreOf R (xnx h1 - xnx h) (xsl h1 - xsl h) (fun a U => a = As.toArray ∧ xRep G h U.heap ∧ xKn G U)) (PostOf (fun _ _ o t => o = .returned v ∧ xRep G h1 t.heap) (xnx h1 - xnx h) (xsl h1 - xsl h) (fun q => xGz G ≤ q)) :=
    back_of (bytes := xMc M') (maxL := xMl M') (ret := xMr M') hM xblind rfl rfl b3 (by show 8 + (xMl M' + 11) + wd' ≤ R.locals; omega)
      (fun w hw a' U hWu => by
        simp only [List.mem_cons, List.not_mem_nil, or_false] at hw
        subst hw
        exact (hKs.moved hWu).2.2.2.1 a' _ hw1) List.mem_cons_self (fun a' U hWu => (hKs.moved hWu).2.2.2.1 a' _ hw2)
  obtain ⟨v', ⟨U', l2, c2, s2⟩, X', ⟨g', mk', t, L', e1, e2, ⟨hq1, hq2⟩, h1', hL', h2', h3'⟩, st⟩ := hK m meth c ⟨T, locs, cells, slots⟩ g ig mk As.toArray X hg hsize hdg hW hn ⟨by show cells + (xnx h1 - xnx h) ≤ R.cells; omega, by show slots + (xsl h1 - xsl h) ≤ R.slots; omega, rfl, hR, hKs.moved X.warmed⟩
  dsimp only [Pt.U, Pt.locs, Pt.cells, Pt.slots] at X' e1 e2 h1' h2' h3' st
  cases hq1
  subst h1'; subst h2'; subst h3'
  refine ⟨U', L', ?_, hL', by rw [e1]; exact hq2, st⟩
  rw [Nat.add_comm (xnx h1 - xnx h), Nat.add_comm (xsl h1 - xsl h)]
  exact X'
/-- the callee's contract, where it throws -/
theorem xMetT {l : Launch} {G : xG} {fr wd : Nat} {M : xM} {As : List Value} {h h1 : xH} {k a : Nat} (hpl : plainFor (xMn M) = true) (hh : xMh M = []) (hln : (lg_sl As).length ≤ xMl M)
    (x : ∀ (p : Program) (e : Env) (R : Room) (s : State) (m : MethodId) (args : Array Value) (below : List Frame) (meth : Method) (c : Code) (H : Heap) (locs : List Loc) (cells slots : Nat) (ls : Array Slot),
      xCx G M p s m meth c → xRep G h H → lv_has ls (xMl M) (lv_args 0 As) → (∀ q ∈ locs, xGz G ≤ q.base) → (xnx h1 - xnx h) + cells ≤ R.cells → (xsl h1 - xsl h) + slots ≤ R.slots → fr ≤ R.frames → wd ≤ R.locals →
      W p l e R s m args below meth c H locs cells slots (xPost G below args s (.inr (k, a)) h1 ((xnx h1 - xnx h) + cells) ((xsl h1 - xsl h) + slots)) (F0 m 0 ls [])) :
    MetFree l (xMn M) (headSpec [Cond.code (xMn M) (xMc M) (xMl M) (xMr M)] { frames := fr, cells := xnx h1 - xnx h, slots := xsl h1 - xsl h, locals := wd }) (fun b U => b = As.toArray ∧ xRep G h U.heap ∧ xKn G U) (fun _ _ _ _ _ => True)
      (fun _ st o t => o = .threw a ∧ (xT h1 a = 200 + k ∧ xRep G h1 t.heap) ∧ st.WarmedH t.vm ∧ ∃ L : List Loc, st.sameButNew ({ t with vm := st.vm } : State) L (xnx h1 - xnx h) (xsl h1 - xsl h) ∧ ∀ q ∈ L, xGz G ≤ q.base) := by
  refine MetFree.of_bodySF (code := xMc M) (maxLocals := xMl M) (ret := xMr M) hpl ?_ ?_
  · intro args s m hp hn
    obtain ⟨meth, c, h1, h2, h3, h4, h5, h6, -, -⟩ := Cond.code_spec hn (atoms_spec (ws := [Cond.code (xMn M) (xMc M) (xMl M) (xMr M)]) hp _ List.mem_cons_self)
    exact ⟨meth, c, h1, h2, h3, h4, h5, h6⟩
  · intro p e s m args below meth c s₁ B hml hv _
    obtain ⟨rfl, hR, hK⟩ := hv
    have hcode : (Cond.code (xMn M) (xMc M) (xMl M) (xMr M)).before As.toArray s = true := atoms_spec (ws := [Cond.code (xMn M) (xMc M) (xMl M) (xMr M)]) B.pre _ List.mem_cons_self
    have he := B.noHandlers hcode
    have he2 : c.exceptionTable.toList = [] := by simpa using he
    have hh0 : s₁.heap = s.heap := by rw [B.state]; rfl
    rw [lg_entry_eq]
    obtain ⟨t, a1, b1, b2, b3, b4, b5⟩ := x p e (headSpec [Cond.code (xMn M) (xMc M) (xMl M) (xMr M)] { frames := fr, cells := xnx h1 - xnx h, slots := xsl h1 - xsl h, locals := wd }).room s m _ below meth c s.heap [] 0 0 _ ⟨B.exec, B.bytes, hml, B.returns, B.notSynchronized, findClass_of_methodNamed B.named, (name_of_methodNamed B.named B.method).1, hK, by rw [he2, hh]; rfl⟩ hR (lv_entry As hln) (fun q hq => by cases hq) (Nat.le_refl _) (Nat.le_refl _) (Nat.le_refl _) (Nat.le_refl _) s₁ hh0 (Stand.of_body B)
    exact ⟨t, .threw a, a1, b1, b2, rfl, b3, b4, b5⟩
theorem xBackT {p : Program} {l : Launch} {e : Env} {R : Room} {s : State} {m : MethodId} {args : Array Value} {below : List Frame} {meth : Method} {c : Code} {T : State} {locs : List Loc} {cells slots : Nat} {G : xG} {fr' wd' : Nat} {M' : xM} {As : List Value} {h h1 : xH} {k a : Nat}
    (X : Stand p l e R s m args below meth c T locs cells slots) (hKs : xKn G s) 
    (hM : MetFree l (xMn M') (headSpec [Cond.code (xMn M') (xMc M') (xMl M') (xMr M')] { frames := fr', cells := xnx h1 - xnx h, slots := xsl h1 - xsl h, locals := wd' }) (fun b U => b = As.toArray ∧ xRep G h U.heap ∧ xKn G U) (fun _ _ _ _ _ => True)
      (fun _ st o t => o = .threw a ∧ (xT h1 a = 200 + k ∧ xRep G h1 t.heap) ∧ st.WarmedH t.vm ∧ ∃ L : List Loc, st.sameButNew ({ t with vm := st.vm } : State) L (xnx h1 - xnx h) (xsl h1 - xsl h) ∧ ∀ q ∈ L, xGz G ≤ q.base))
    (hw1 : Cond.code (xMn M') (xMc M') (xMl M') (xMr M') ∈ xTT) (hw2 : Cond.initialized (xMn M').cls ∈ xTT) (hR : xRep G h T.heap) (b1 : (xnx h1 - xnx h) + cells ≤ R.cells) (b2 : (xsl h1 - xsl h) + slots ≤ R.slots) (b3 : fr' + 1 ≤ R.frames) (b4 : 19 + xMl M' + wd' ≤ R.locals)
    {g : JFrame} {ig : Instr} {len : Nat} {mk : MethodId} (hg : g.method = m) (hsize : g.locals.size = c.maxLocals) (hdg : decode c.code g.pc = .ok (ig, len)) (hW : 2 * g.monitorRoom + (g.stack.map fun v => v.category).sum ≤ 8) (hn : T.methodNamed? (xMn M') = some mk) :
    ∃ (T' : State) (L' : List Loc), Stand p l e R s m args below meth c T' (locs ++ L') ((xnx h1 - xnx h) + cells) ((xsl h1 - xsl h) + slots) ∧ (∀ q ∈ L', xGz G ≤ q.base) ∧ xT h1 a = 200 + k ∧ xRep G h1 T'.heap ∧
      Steps p.tables e below (doInvoke e (T.setTop g) [] mk As.toArray).1 ((T'.setTop g).pushFrame (.throwing a)) := by
  have hKT := hKs.moved X.warmed
  have hcodeT := hKT.2.2.2.1 As.toArray _ hw1
  obtain ⟨methY, cY, hmY, hcY, -, hlY, -, -, -, -⟩ := Cond.code_spec hn hcodeT
  obtain ⟨kY, hkY, -⟩ := className_of_methodNamed hn
  have hinitY : kY.init = .initialized := Cond.initialized_spec (findClass_of_methodNamed hn) hkY (hKT.2.2.2.1 As.toArray _ hw2)
  have hat : At T g.method c below := by rw [hg]; exact X.here
  have hpre : (headSpec [Cond.code (xMn M') (xMc M') (xMl M') (xMr M')] { frames := fr', cells := xnx h1 - xnx h, slots := xsl h1 - xsl h, locals := wd' }).pre.before As.toArray T = true :=
    atoms_intro (fun w hw => by
      simp only [List.mem_cons, List.not_mem_nil, or_false] at hw
      subst hw
      exact hcodeT)
  have happ : (headSpec [Cond.code (xMn M') (xMc M') (xMl M') (xMr M')] { frames := fr', cells := xnx h1 - xnx h, slots := xsl h1 - xsl h, locals := wd' }).appliesLoose (xMn M') e.platform (T.calling g mk As.toArray) = true :=
    Spec.appliesLoose_calling (g := g) hat hdg hn hkY hinitY
      (X.room_calling (g := g) (R' := { frames := fr', cells := xnx h1 - xnx h, slots := xsl h1 - xsl h, locals := wd' }) hsize hmY hcY b3 (by rw [hlY]; show _ + (xMl M' + 11) + wd' ≤ R.locals; omega) (by show cells + (xnx h1 - xnx h) ≤ R.cells; omega) (by show slots + (xsl h1 - xsl h) ≤ R.slots; omega)) hpre
  obtain ⟨mid, hmid⟩ := hat.above
  have hfr : (T.setTop g).frames = (.java g :: mid) ++ below := by rw [State.frames_setTop' g hat.top, hmid]; rfl
  obtain ⟨o, s₂, hsteps, -, hend, ho, hq1, hW₂, L', hsb, hbase⟩ := Steps.callFree hM p X.admits X.cas X.clock (acts := []) hfr happ ⟨rfl, hR, xKn.moved (s := T) (U := T.calling g mk As.toArray) (State.WarmedH.refl T) hKT⟩ trivial
  subst ho
  rw [State.frames_setTop' g hat.top] at hend
  obtain ⟨e2, q2, q3, q4, q5, q6⟩ := hsb
  have e2 : ({ s₂ with vm := (T.calling g mk As.toArray).vm } : State) = { (T.calling g mk As.toArray).setFrames s₂.frames with heap := s₂.heap, slotsUsed := s₂.slotsUsed } := e2
  have e3 : s₂ = ({ (T.calling g mk As.toArray).setFrames s₂.frames with heap := s₂.heap, slotsUsed := s₂.slotsUsed } : State).setVm s₂.vm := by
    have z : s₂ = ({ s₂ with vm := (T.calling g mk As.toArray).vm } : State).setVm s₂.vm := rfl
    rw [e2] at z
    exact z
  have hf₂ : s₂.frames = .throwing a :: .java g :: T.frames.tail := hend
  have hW' : T.WarmedH s₂.vm := hW₂
  obtain ⟨g₀, hg0⟩ := Option.isSome_iff_exists.mp hat.top
  obtain ⟨r, hr⟩ := State.topJava?_eq_some.mp hg0
  have hs₂ : s₂ = ((({ T with heap := s₂.heap, slotsUsed := s₂.slotsUsed } : State).setVm s₂.vm).setTop g).pushFrame (.throwing a) := by
    have hr' : (({ T with heap := s₂.heap, slotsUsed := s₂.slotsUsed } : State).setVm s₂.vm).frames = .java g₀ :: r := hr
    refine e3.trans ?_
    rw [hf₂, State.calling_eq hat.top, State.setFrames_setFrames, State.pushFrame, State.frames_setTop _ hr', State.setTop_of_frames _ hr', State.setFrames_setFrames, hr]
    rfl
  have hsame : T.sameButNew ({ T with heap := s₂.heap, slotsUsed := s₂.slotsUsed } : State) L' (xnx h1 - xnx h) (xsl h1 - xsl h) := by
    refine ⟨?_, q2, q3, q4, q5, q6⟩
    obtain ⟨t, ht, -⟩ := State.frames_cons hr
    show ({ T with heap := s₂.heap, slotsUsed := s₂.slotsUsed } : State) = { T.setFrames T.frames with heap := s₂.heap, slotsUsed := s₂.slotsUsed }
    rw [State.setFrames_self ht]
  subst hg
  refine ⟨({ T with heap := s₂.heap, slotsUsed := s₂.slotsUsed } : State).setVm s₂.vm, L', ?_, hbase, hq1.1, hq1.2, ?_⟩
  · rw [Nat.add_comm (xnx h1 - xnx h), Nat.add_comm (xsl h1 - xsl h)]
    exact ⟨X.admits, X.cas, X.clock, X.frames, X.room, X.hears, X.method, X.code, (X.here.setHeapUsed s₂.heap s₂.slotsUsed).setVm hW'.alike, X.tail, State.WarmedH.trans X.warmed hW', X.limits, X.bytes, X.same.trans (hsame.setVm s.vm)⟩
  · rw [← hs₂]
    exact hsteps
/-- a call, whatever comes of it: 'go' is what the instruction does before the callee's frame is laid -/
theorem xcall {l : Launch} {G : xG} {fr wd fr' wd' : Nat} {M M' : xM} {pc : Nat} {L : List (Nat × Value)} {st0 st : List Value} {h : xH} {Q Q' : xR → xH → Prop} {As : List Value} {ig : Instr} (hd : decode (xMc M) pc = .ok (ig, 3)) (hpl : plainFor (xMn M') = true) (hh : xMh M' = []) (hln : (lg_sl As).length ≤ xMl M') 
    (hfr : fr' + 1 ≤ fr) (hwd : 19 + xMl M' + wd' ≤ wd) (hw1 : Cond.code (xMn M') (xMc M') (xMl M') (xMr M') ∈ xTT) (hw2 : Cond.initialized (xMn M').cls ∈ xTT) (hst : (st.map fun v => v.category).sum ≤ 8)
    (go : ∀ (p : Program) (e : Env) (R : Room) (s : State) (m : MethodId) (args : Array Value) (below : List Frame) (meth : Method) (c : Code) (T : State) (locs : List Loc) (cells slots : Nat) (ls : Array Slot), xCx G M p s m meth c → xRep G h T.heap → lv_has ls (xMl M) L → Stand p l e R s m args below meth c T locs cells slots →
      ∃ (vm₁ : Vm) (mk : MethodId), Stand p l e R s m args below meth c (T.setVm vm₁) locs cells slots ∧ s.methodNamed? (xMn M') = some mk ∧ ∀ target, (∀ acts, Steps p.tables e below (doInvoke e ((T.setVm vm₁).setTop (F0 m pc ls st)) acts mk As.toArray).1 target) → Steps p.tables e below (T.setTop (F0 m pc ls st0)) target)
    (hq : xVM l G fr' wd' M' As h Q') (kr : ∀ (v : Option Value) (h1 : xH), Q' (.inl v) h1 → xV l G fr wd M (pc + 3) L (v.toList ++ st) h1 Q) (kt : ∀ (k a : Nat) (h1 : xH), Q' (.inr (k, a)) h1 → Q (.inr (k, a)) h1) (hno : ∀ q ∈ xMh M, ¬ (q.1 ≤ pc ∧ pc < q.2.1)) :
    xV l G fr wd M pc L st0 h Q := by
  obtain ⟨r1, h1, q1, y1, y2, y⟩ := hq
  cases r1 with
  | inl v =>
    obtain ⟨r, h', q, x1, x2, x⟩ := kr v h1 q1
    refine ⟨r, h', q, Nat.le_trans y1 x1, Nat.le_trans y2 x2, fun p e R s m args below meth c H locs cells slots ls C hR hl hf b1 b2 b3 b4 => ?_⟩
    have hC := C
    obtain ⟨hx, hb, hml, hr', hlk, hown, hmn, hKn, hex⟩ := hC
    intro T hT X
    subst hT
    obtain ⟨vm₁, mk, X₁, hnm, hstep⟩ := go p e R s m args below meth c T locs cells slots ls C hR hl X
    obtain ⟨T', L', X', hL', hR1, hst'⟩ := xBackR (h1 := h1) (v := v) X₁ hKn hpl hh hln (xMet hpl hh hln y) hw1 hw2 hR (by omega) (by omega) (Nat.le_trans hfr b3) (Nat.le_trans hwd b4) (g := F0 m pc ls st) rfl (by rw [hml]; exact hl.1) (by rw [hb]; exact hd) (lv_room hst) (X₁.named hnm)
    have e1 : (xnx h' - xnx h1) + ((xnx h1 - xnx h) + cells) = (xnx h' - xnx h) + cells := by omega
    have e2 : (xsl h' - xsl h1) + ((xsl h1 - xsl h) + slots) = (xsl h' - xsl h) + slots := by omega
    obtain ⟨t, a1, b1'⟩ := x p e R s m args below meth c T'.heap (locs ++ L') _ _ ls C hR1 hl (fun q0 hq0 => by
      rcases List.mem_append.mp hq0 with z | z
      · exact hf q0 z
      · exact hL' q0 z) (by rw [e1]; exact b1) (by rw [e2]; exact b2) b3 b4 T' rfl X'
    rw [e1, e2] at b1'
    exact ⟨t, hstep t (fun acts => by rw [doInvoke_state]; exact hst'.trans a1), b1'⟩
  | inr ka =>
    obtain ⟨k, a⟩ := ka
    refine ⟨.inr (k, a), h1, kt k a h1 q1, y1, y2, fun p e R s m args below meth c H locs cells slots ls C hR hl hf b1 b2 b3 b4 => ?_⟩
    have hC := C
    obtain ⟨hx, hb, hml, hr', hlk, hown, hmn, hKn, hex⟩ := hC
    intro T hT X
    subst hT
    obtain ⟨vm₁, mk, X₁, hnm, hstep⟩ := go p e R s m args below meth c T locs cells slots ls C hR hl X
    obtain ⟨T', L', X', hL', hTa, hR1, hst'⟩ := xBackT (h1 := h1) X₁ hKn (xMetT hpl hh hln y) hw1 hw2 hR b1 b2 (Nat.le_trans hfr b3) (Nat.le_trans hwd b4) (g := F0 m pc ls st) rfl (by rw [hml]; exact hl.1) (by rw [hb]; exact hd) (lv_room hst) (X₁.named hnm)
    have hout : ∀ z ∈ c.exceptionTable.toList, covers z pc = false := by
      intro z hz
      have hm : (z.startPc, z.endPc, z.handlerPc, z.catchType) ∈ xMh M := by
        rw [← hex]
        exact List.mem_map_of_mem hz
      have := hno _ hm
      simp only [covers, Bool.and_eq_false_iff, decide_eq_false_iff_not]
      by_cases h9 : z.startPc ≤ pc
      · exact Or.inr (fun h8 => this ⟨h9, h8⟩)
      · exact Or.inl h9
    obtain ⟨w1, w2, w3, w4, w5⟩ := X'.leaveThrown a (g := F0 m pc ls st) rfl rfl rfl hout hlk
    refine ⟨_, hstep _ (fun acts => by rw [doInvoke_state]; exact hst'.trans w1), w2, w3, ⟨hTa, hR1⟩, w4, locs ++ L', w5, fun q0 hq0 => ?_⟩
    rcases List.mem_append.mp hq0 with z | z
    · exact hf q0 z
    · exact hL' q0 z
section XCALL
variable {l : Launch} {G : xG} {fr wd fr' wd' : Nat} {M M' : xM} {pc : Nat} {L : List (Nat × Value)} {st : List Value} {h : xH} {Q Q' : xR → xH → Prop} {As : List Value}
theorem x_callS {ix : Nat} (hd : decode (xMc M) pc = .ok (.invokestatic ix, 3)) (hpl : plainFor (xMn M') = true) (hh : xMh M' = []) (hln : (lg_sl As).length ≤ xMl M') 
    (hfr : fr' + 1 ≤ fr) (hwd : 19 + xMl M' + wd' ≤ wd) (hw1 : Cond.code (xMn M') (xMc M') (xMl M') (xMr M') ∈ xTT) (hw2 : Cond.initialized (xMn M').cls ∈ xTT) (hw3 : Cond.methodLink (xMn M).cls ix (xMn M') ∈ xTT) (hw4 : Cond.static (xMn M') ∈ xTT)
    (hy : (xMn M').cls ≠ "java/lang/invoke/MethodHandle" ∧ (xMn M').cls ≠ "java/lang/invoke/VarHandle") (hn : (parseMethodDescriptor (xMn M').desc).map (fun d => d.parameters.length) = some As.length) (hst : (st.map fun v => v.category).sum ≤ 8) (hno : ∀ q ∈ xMh M, ¬ (q.1 ≤ pc ∧ pc < q.2.1))
    (hq : xVM l G fr' wd' M' As h Q') (kt : ∀ (k a : Nat) (h1 : xH), Q' (.inr (k, a)) h1 → Q (.inr (k, a)) h1) (kr : ∀ (v : Option Value) (h1 : xH), Q' (.inl v) h1 → xV l G fr wd M (pc + 3) L (v.toList ++ st) h1 Q) :
    xV l G fr wd M pc L (As.reverse ++ st) h Q := by
  refine xcall hd hpl hh hln hfr hwd hw1 hw2 hst (fun p e R s m args below meth c T locs cells slots ls C hR hl X => ?_) hq kr kt hno
  obtain ⟨hx, hb, hml, hr', hlk, hown, hmn, hKn, hex⟩ := C
  have hts := hKn.2.2.2.1 args
  obtain ⟨mk, hnamed⟩ := Cond.code_named (hts _ hw1)
  obtain ⟨methM, cM, hmethM, -, -, -, -, -, -, hsigM⟩ := Cond.code_spec hnamed (hts _ hw1)
  have hstatic : methM.isStatic = true := Cond.static_spec hnamed hmethM (hts _ hw4)
  obtain ⟨kP, hkP, -⟩ := className_of_methodNamed hnamed
  have hinitP : kP.init = .initialized := Cond.initialized_spec (findClass_of_methodNamed hnamed) hkP (hts _ hw2)
  rw [hsigM] at hn
  obtain ⟨vm₁, X₁, hstep₁⟩ := X.invokestatic hx hown (hts _ hw3) hnamed hmethM hstatic hkP hinitP hy (g := F0 m pc ls (As.reverse ++ st)) rfl (argsL := As) (rest := st) (Option.some.inj hn).symm rfl (by rw [hb]; exact hd)
  exact ⟨vm₁, mk, X₁, hnamed, hstep₁⟩
theorem x_callV {ix k b : Nat} {C : vw_C} (hd : decode (xMc M) pc = .ok (.invokevirtual ix, 3)) (hT : xT h b = k + 1) (hc : xcls[k]? = some C) (hpl : plainFor (xMn M') = true) (hh : xMh M' = []) (hln : (lg_sl (.ref b :: As)).length ≤ xMl M') 
    (hfr : fr' + 1 ≤ fr) (hwd : 19 + xMl M' + wd' ≤ wd) (hw1 : Cond.code (xMn M') (xMc M') (xMl M') (xMr M') ∈ xTT) (hw2 : Cond.initialized (xMn M').cls ∈ xTT) (hw3 : Cond.methodLink (xMn M).cls ix (xMn M') ∈ xTT) (hw4 : Cond.instanceMethod (xMn M') ∈ xTT) (hw5 : Cond.selects C.1 (xMn M') (xMn M') ∈ xTT)
    (hy : (xMn M').cls ≠ "java/lang/invoke/MethodHandle" ∧ (xMn M').cls ≠ "java/lang/invoke/VarHandle") (hn : (parseMethodDescriptor (xMn M').desc).map (fun d => d.parameters.length) = some As.length) (hst : (st.map fun v => v.category).sum ≤ 8) (hno : ∀ q ∈ xMh M, ¬ (q.1 ≤ pc ∧ pc < q.2.1))
    (hq : xVM l G fr' wd' M' (.ref b :: As) h Q') (kt : ∀ (k a : Nat) (h1 : xH), Q' (.inr (k, a)) h1 → Q (.inr (k, a)) h1) (kr : ∀ (v : Option Value) (h1 : xH), Q' (.inl v) h1 → xV l G fr wd M (pc + 3) L (v.toList ++ st) h1 Q) :
    xV l G fr wd M pc L (As.reverse ++ .ref b :: st) h Q := by
  refine xcall hd hpl hh hln hfr hwd hw1 hw2 hst (fun p e R s m args below meth c T locs cells slots ls Cx hR hl X => ?_) hq kr kt hno
  obtain ⟨cellB, c1, c2, c3, -⟩ := xobj hR hT hc
  obtain ⟨hx, hb, hml, hr', hlk, hown, hmn, hKn, hex⟩ := Cx
  have hts := hKn.2.2.2.1 args
  have hcls : s.vm.findClass C.1 = some cellB.cls := by rw [c2]; exact (hKn.1 k C hc).2.1
  obtain ⟨mk, methM, hnamed, hmethM, hstM, habM⟩ := Cond.instanceMethod_spec (hts _ hw4)
  obtain ⟨methM', cM, hmethM', -, -, -, -, -, -, hsigM⟩ := Cond.code_spec hnamed (hts _ hw1)
  cases hmethM.symm.trans hmethM'
  obtain ⟨c2', r2, m2, q1, q2, q3, q4, kP, hkP, hkPi⟩ := Cond.selects_spec (hts _ hw5)
  cases hcls.symm.trans q1
  cases (State.methodFound?_of_named hnamed hy).symm.trans q2
  cases hnamed.symm.trans q3
  have hselP : selectMethod e.platform s.vm cellB.cls mk = .method mk := by rw [Launch.admits_selectMethod X.admits]; exact q4
  rw [hsigM] at hn
  obtain ⟨vm₁, X₁, hstep₁⟩ := X.invokevirtual hx hown (hts _ hw3) hnamed hmethM hstM hkP hkPi hy (a := b) (cell := cellB) c1
    (fun z hz => by rw [c3] at hz; cases hz) hselP hmethM habM hkP hkPi (g := F0 m pc ls (As.reverse ++ .ref b :: st)) rfl (argsL := As) (rest := st) (Option.some.inj hn).symm rfl (by rw [hb]; exact hd)
  exact ⟨vm₁, mk, X₁, hnamed, hstep₁⟩
theorem x_callI {ix b : Nat} (hd : decode (xMc M) pc = .ok (.invokespecial ix, 3)) (hpl : plainFor (xMn M') = true) (hh : xMh M' = []) (hln : (lg_sl (.ref b :: As)).length ≤ xMl M')  (hr0 : xMr M' = none) (hni : (xMn M').name = "<init>")
    (hfr : fr' + 1 ≤ fr) (hwd : 19 + xMl M' + wd' ≤ wd) (hw1 : Cond.code (xMn M') (xMc M') (xMl M') (xMr M') ∈ xTT) (hw2 : Cond.initialized (xMn M').cls ∈ xTT) (hw3 : Cond.methodLink (xMn M).cls ix (xMn M') ∈ xTT) (hw4 : Cond.instanceMethod (xMn M') ∈ xTT)
    (hy : (xMn M').cls ≠ "java/lang/invoke/MethodHandle" ∧ (xMn M').cls ≠ "java/lang/invoke/VarHandle") (hn : (parseMethodDescriptor (xMn M').desc).map (fun d => d.parameters.length) = some As.length) (hst : (st.map fun v => v.category).sum ≤ 8) (hno : ∀ q ∈ xMh M, ¬ (q.1 ≤ pc ∧ pc < q.2.1))
    (hq : xVM l G fr' wd' M' (.ref b :: As) h Q') (kt : ∀ (k a : Nat) (h1 : xH), Q' (.inr (k, a)) h1 → Q (.inr (k, a)) h1) (kr : ∀ (v : Option Value) (h1 : xH), Q' (.inl v) h1 → xV l G fr wd M (pc + 3) L (v.toList ++ st) h1 Q) :
    xV l G fr wd M pc L (As.reverse ++ .ref b :: st) h Q := by
  refine xcall hd hpl hh hln hfr hwd hw1 hw2 hst (fun p e R s m args below meth c T locs cells slots ls Cx hR hl X => ?_) hq kr kt hno
  obtain ⟨hx, hb, hml, hr', hlk, hown, hmn, hKn, hex⟩ := Cx
  have hts := hKn.2.2.2.1 args
  have hpl2 : e.platform.magicAccessors = ({} : Platform).magicAccessors := by rw [X.admits.platform]
  have hc1 := hts _ hw1
  rw [hr0] at hc1
  obtain ⟨mk, methM, cM, kP, vm₁, hnamed, hmethM, hcodeM, -, hlocalsM, -, hkP, -, hW₁, hstep₁⟩ := Steps.initColdArgs (e := e) X.here hx X.warmed hpl2 hown hni hy (hts _ hw3) (hts _ hw4) hc1 (f := F0 m pc ls (As.reverse ++ .ref b :: st)) rfl (fun sig hs => by rw [hs] at hn; exact (Option.some.inj hn).symm) rfl (by rw [hb]; exact hd)
  exact ⟨vm₁, mk, X.noted hW₁, hnamed, hstep₁⟩
end XCALL

/-- the callee's contract, a method with handlers that returns -/
theorem xMetH {l : Launch} {G : xG} {fr wd : Nat} {M : xM} {As : List Value} {h h1 : xH} {v : Option Value} (hpl : plainFor (xMn M) = true) (hln : (lg_sl As).length ≤ xMl M)
    (x : ∀ (p : Program) (e : Env) (R : Room) (s : State) (m : MethodId) (args : Array Value) (below : List Frame) (meth : Method) (c : Code) (H : Heap) (locs : List Loc) (cells slots : Nat) (ls : Array Slot),
      xCx G M p s m meth c → xRep G h H → lv_has ls (xMl M) (lv_args 0 As) → (∀ q ∈ locs, xGz G ≤ q.base) → (xnx h1 - xnx h) + cells ≤ R.cells → (xsl h1 - xsl h) + slots ≤ R.slots → fr ≤ R.frames → wd ≤ R.locals →
      W p l e R s m args below meth c H locs cells slots (xPost G below args s (.inl v) h1 ((xnx h1 - xnx h) + cells) ((xsl h1 - xsl h) + slots)) (F0 m 0 ls [])) :
    Met l (xMn M) [Cond.codeWith (xMn M) (xMc M) (xMl M) (xMr M) (xMh M)] { frames := fr, cells := xnx h1 - xnx h, slots := xsl h1 - xsl h, locals := wd } (fun a U => a = As.toArray ∧ xRep G h U.heap ∧ xKn G U) (fun _ _ o t => o = .returned v ∧ xRep G h1 t.heap) (xnx h1 - xnx h) (xsl h1 - xsl h) (fun q => xGz G ≤ q) := by
  refine MetFree.of_bodySF (code := xMc M) (maxLocals := xMl M) (ret := xMr M) hpl ?_ ?_
  · intro args s m hp hn
    obtain ⟨m', meth, c, hn', h1, h2, h3, h4, -, h5, h6, -⟩ := Cond.codeWith_spec (atoms_spec (ws := [Cond.codeWith (xMn M) (xMc M) (xMl M) (xMr M) (xMh M)]) hp _ List.mem_cons_self)
    cases hn.symm.trans hn'
    exact ⟨meth, c, h1, h2, h3, h4, h5, h6⟩
  · intro p e s m args below meth c s₁ B hml hv _
    obtain ⟨rfl, hR, hK⟩ := hv
    obtain ⟨m', meth', c', hn', g1, g2, -, -, g3, -, -, -⟩ := Cond.codeWith_spec (atoms_spec (ws := [Cond.codeWith (xMn M) (xMc M) (xMl M) (xMr M) (xMh M)]) B.pre _ List.mem_cons_self)
    cases B.named.symm.trans hn'
    cases B.method.symm.trans g1
    have X0 := Stand.of_body B
    cases X0.code.symm.trans g2
    have hh0 : s₁.heap = s.heap := by rw [B.state]; rfl
    rw [lg_entry_eq]
    obtain ⟨t, a1, o, b1, b2, b3⟩ := x p e (headSpec [Cond.codeWith (xMn M) (xMc M) (xMl M) (xMr M) (xMh M)] { frames := fr, cells := xnx h1 - xnx h, slots := xsl h1 - xsl h, locals := wd }).room s m _ below meth c s.heap [] 0 0 _ ⟨B.exec, B.bytes, hml, B.returns, B.notSynchronized, findClass_of_methodNamed B.named, (name_of_methodNamed B.named B.method).1, hK, g3⟩ hR (lv_entry As hln) (fun q hq => by cases hq) (Nat.le_refl _) (Nat.le_refl _) (Nat.le_refl _) (Nat.le_refl _) s₁ hh0 X0
    exact ⟨t, o, a1, b1, b2, ⟨b3.1, b3.2⟩⟩
theorem xBackRH {p : Program} {l : Launch} {e : Env} {R : Room} {s : State} {m : MethodId} {args : Array Value} {below : List Frame} {meth : Method} {c : Code} {T : State} {locs : List Loc} {cells slots : Nat} {G : xG} {fr' wd' : Nat} {M' : xM} {As : List Value} {h h1 : xH} {v : Option Value}
    (X : Stand p l e R s m args below meth c T locs cells slots) (hKs : xKn G s)
    (hM : Met l (xMn M') [Cond.codeWith (xMn M') (xMc M') (xMl M') (xMr M') (xMh M')] { frames := fr', cells := xnx h1 - xnx h, slots := xsl h1 - xsl h, locals := wd' } (fun a U => a = As.toArray ∧ xRep G h U.heap ∧ xKn G U) (fun _ _ o t => o = .returned v ∧ xRep G h1 t.heap) (xnx h1 - xnx h) (xsl h1 - xsl h) (fun q => xGz G ≤ q))
    (hw1 : Cond.codeWith (xMn M') (xMc M') (xMl M') (xMr M') (xMh M') ∈ xTT) (hw2 : Cond.initialized (xMn M').cls ∈ xTT) (hR : xRep G h T.heap) (b1 : (xnx h1 - xnx h) + cells ≤ R.cells) (b2 : (xsl h1 - xsl h) + slots ≤ R.slots) (b3 : fr' + 1 ≤ R.frames) (b4 : 19 + xMl M' + wd' ≤ R.locals)
    {g : JFrame} {ig : Instr} {len : Nat} {mk : MethodId} (hg : g.method = m) (hsize : g.locals.size = c.maxLocals) (hdg : decode c.code g.pc = .ok (ig, len)) (hW : 2 * g.monitorRoom + (g.stack.map fun v => v.category).sum ≤ 8) (hn : T.methodNamed? (xMn M') = some mk) :
    ∃ (T' : State) (L' : List Loc), Stand p l e R s m args below meth c T' (locs ++ L') ((xnx h1 - xnx h) + cells) ((xsl h1 - xsl h) + slots) ∧ (∀ q ∈ L', xGz G ≤ q.base) ∧ xRep G h1 T'.heap ∧
      Steps p.tables e below (doInvoke e (T.setTop g) [] mk As.toArray).1 (T'.setTop { g with pc := g.pc + len, stack := v.toList ++ g.stack }) := by
  have hK : Back l R p e below s args (xMn M') len 8 (PreOf R (xnx h1 - xnx h) (xsl h1 - xsl h) (fun a U => a = As.toArray ∧ xRep G h U.heap ∧ xKn G U)) (PostOf (fun _ _ o t => o = .returned v ∧ xRep G h1 t.heap) (xnx h1 - xnx h) (xsl h1 - xsl h) (fun q => xGz G ≤ q)) := by
    refine va_ofFreeW (S := headSpec [Cond.codeWith (xMn M') (xMc M') (xMl M') (xMr M') (xMh M')] { frames := fr', cells := xnx h1 - xnx h, slots := xsl h1 - xsl h, locals := wd' }) (bytes := xMc M') (maxL := xMl M') (ret := xMr M') (hh := xMh M')
      (E := fun a st o t L k n => k = xnx h1 - xnx h ∧ n = xsl h1 - xsl h ∧ ∀ q ∈ L, xGz G ≤ q.base) hM b3 (by show 8 + (xMl M' + 11) + wd' ≤ R.locals; omega) ?_ ?_ (fun _ _ _ _ _ _ _ _ _ => trivial) ?_ ?_
    · intro m meth c A a X hp
      have hKA := hKs.moved X.warmed
      refine ⟨atoms_intro (fun w hw => ?_), hKA.2.2.2.1 a _ hw1, hKA.2.2.2.1 a _ hw2, hp.1, hp.2.1⟩
      simp only [List.mem_cons, List.not_mem_nil, or_false] at hw
      subst hw
      exact hKA.2.2.2.1 a _ hw1
    · intro m meth c A a g mk X hp
      exact xblind _ _ _ _ hp.2.2
    · intro a st o t hq
      obtain ⟨hq1, L, hF, hL⟩ := hq
      exact ⟨L, _, _, hF, rfl, rfl, hL⟩
    · intro m meth c A a g mk v t L k n X hp hq hF he
      obtain ⟨e1, e2, hL⟩ := he
      subst e1; subst e2
      exact ⟨g, mk, t, L, rfl, rfl, hq.1, rfl, hL, rfl, rfl⟩
  obtain ⟨v', ⟨U', l2, c2, s2⟩, X', ⟨g', mk', t, L', e1, e2, ⟨hq1, hq2⟩, h1', hL', h2', h3'⟩, st⟩ := hK m meth c ⟨T, locs, cells, slots⟩ g ig mk As.toArray X hg hsize hdg hW hn ⟨by show cells + (xnx h1 - xnx h) ≤ R.cells; omega, by show slots + (xsl h1 - xsl h) ≤ R.slots; omega, rfl, hR, hKs.moved X.warmed⟩
  dsimp only [Pt.U, Pt.locs, Pt.cells, Pt.slots] at X' e1 e2 h1' h2' h3' st
  cases hq1
  subst h1'; subst h2'; subst h3'
  refine ⟨U', L', ?_, hL', by rw [e1]; exact hq2, st⟩
  rw [Nat.add_comm (xnx h1 - xnx h), Nat.add_comm (xsl h1 - xsl h)]
  exact X'
/-- a static call of a method with handlers, that returns -/
theorem x_callSH {l : Launch} {G : xG} {fr wd fr' wd' : Nat} {M M' : xM} {pc : Nat} {L : List (Nat × Value)} {st : List Value} {h : xH} {Q Q' : xR → xH → Prop} {As : List Value} {ix : Nat} (hd : decode (xMc M) pc = .ok (.invokestatic ix, 3)) (hpl : plainFor (xMn M') = true) (hln : (lg_sl As).length ≤ xMl M')
    (hfr : fr' + 1 ≤ fr) (hwd : 19 + xMl M' + wd' ≤ wd) (hw1 : Cond.codeWith (xMn M') (xMc M') (xMl M') (xMr M') (xMh M') ∈ xTT) (hw2 : Cond.initialized (xMn M').cls ∈ xTT) (hw3 : Cond.methodLink (xMn M).cls ix (xMn M') ∈ xTT) (hw4 : Cond.static (xMn M') ∈ xTT)
    (hy : (xMn M').cls ≠ "java/lang/invoke/MethodHandle" ∧ (xMn M').cls ≠ "java/lang/invoke/VarHandle") (hn : (parseMethodDescriptor (xMn M').desc).map (fun d => d.parameters.length) = some As.length) (hst : (st.map fun v => v.category).sum ≤ 8)
    (hq : xVM l G fr' wd' M' As h Q') (kt : ∀ (k a : Nat) (h1 : xH), ¬ Q' (.inr (k, a)) h1) (kr : ∀ (v : Option Value) (h1 : xH), Q' (.inl v) h1 → xV l G fr wd M (pc + 3) L (v.toList ++ st) h1 Q) :
    xV l G fr wd M pc L (As.reverse ++ st) h Q := by
  obtain ⟨r1, h1, q1, y1, y2, y⟩ := hq
  cases r1 with
  | inr ka => exact absurd q1 (kt ka.1 ka.2 h1)
  | inl v =>
    obtain ⟨r, h', q, x1, x2, x⟩ := kr v h1 q1
    refine ⟨r, h', q, Nat.le_trans y1 x1, Nat.le_trans y2 x2, fun p e R s m args below meth c H locs cells slots ls C hR hl hf b1 b2 b3 b4 => ?_⟩
    have hC := C
    obtain ⟨hx, hb, hml, hr', hlk, hown, hmn, hKn, hex⟩ := hC
    have hts := hKn.2.2.2.1 args
    intro T hT X
    subst hT
    obtain ⟨mk, methM, cM, hnamed, hmethM, -, -, -, -, -, -, hsigM⟩ := Cond.codeWith_spec (hts _ hw1)
    have hstatic : methM.isStatic = true := Cond.static_spec hnamed hmethM (hts _ hw4)
    obtain ⟨kP, hkP, -⟩ := className_of_methodNamed hnamed
    have hinitP : kP.init = .initialized := Cond.initialized_spec (findClass_of_methodNamed hnamed) hkP (hts _ hw2)
    rw [hsigM] at hn
    obtain ⟨vm₁, X₁, hstep₁⟩ := X.invokestatic hx hown (hts _ hw3) hnamed hmethM hstatic hkP hinitP hy (g := F0 m pc ls (As.reverse ++ st)) rfl (argsL := As) (rest := st) (Option.some.inj hn).symm rfl (by rw [hb]; exact hd)
    obtain ⟨T', L', X', hL', hR1, hst'⟩ := xBackRH (h1 := h1) (v := v) X₁ hKn (xMetH hpl hln y) hw1 hw2 hR (by omega) (by omega) (Nat.le_trans hfr b3) (Nat.le_trans hwd b4) (g := F0 m pc ls st) rfl (by rw [hml]; exact hl.1) (by rw [hb]; exact hd) (lv_room hst) (X₁.named hnamed)
    have e1 : (xnx h' - xnx h1) + ((xnx h1 - xnx h) + cells) = (xnx h' - xnx h) + cells := by omega
    have e2 : (xsl h' - xsl h1) + ((xsl h1 - xsl h) + slots) = (xsl h' - xsl h) + slots := by omega
    obtain ⟨t, a1, b1'⟩ := x p e R s m args below meth c T'.heap (locs ++ L') _ _ ls C hR1 hl (fun q0 hq0 => by
      rcases List.mem_append.mp hq0 with z | z
      · exact hf q0 z
      · exact hL' q0 z) (by rw [e1]; exact b1) (by rw [e2]; exact b2) b3 b4 T' rfl X'
    rw [e1, e2] at b1'
    exact ⟨t, hstep₁ t (fun acts => by rw [doInvoke_state]; exact hst'.trans a1), b1'⟩
/-- where a thrown exception of kind k is caught in M: the row, and those ahead of it that it passes -/
def xHnd (M : xM) (pc k hp : Nat) : Prop :=
  ∃ (pre suf : List (Nat × Nat × Nat × Nat)) (s0 e0 ct : Nat) (nm : String), xMh M = pre ++ (s0, e0, hp, ct) :: suf ∧ s0 ≤ pc ∧ pc < e0 ∧ ct ≠ 0 ∧ xexn[k]? = some nm ∧ Cond.classLink (xMn M).cls ct nm ∈ xTT ∧ Cond.castable nm nm ∈ xTT ∧
    ∀ y ∈ pre, y.2.2.2 ≠ 0 ∧ ∃ nj : String, Cond.classLink (xMn M).cls y.2.2.2 nj ∈ xTT ∧ (nm, nj) ∈ xNC
theorem xcaught {p : Program} {l : Launch} {e : Env} {R : Room} {s : State} {m : MethodId} {args : Array Value} {below : List Frame} {meth : Method} {c : Code} {T : State} {locs : List Loc} {cells slots : Nat} {G : xG} {M : xM} {pc k a hp : Nat} {h1 : xH} {ls : Array Slot} {st : List Value}
    (X : Stand p l e R s m args below meth c T locs cells slots) (C : xCx G M p s m meth c) (hT : xT h1 a = 200 + k) (hR : xRep G h1 T.heap) (hh : xHnd M pc k hp) :
    ∃ vm' : Vm, Stand p l e R s m args below meth c (T.setVm vm') locs cells slots ∧ Steps p.tables e below ((T.setTop (F0 m pc ls st)).pushFrame (.throwing a)) ((T.setVm vm').setTop (F0 m hp ls [.ref a])) := by
  obtain ⟨hx, hb, hml, hr', hlk, hown, hmn, hKn, hex⟩ := C
  obtain ⟨pre, suf, s0, e0, ct, nm, hsp, hs0, he0, hct, hnm, hl1, hl2, hpre⟩ := hh
  have hts := hKn.2.2.2.1 args
  have hpl : e.platform.magicAccessors = ({} : Platform).magicAccessors := by rw [X.admits.platform]
  obtain ⟨-, -, h3⟩ := hR.2.2.2 a (by rw [hT]; omega)
  rw [hT] at h3
  unfold xCell at h3
  rw [if_neg (by omega), if_neg (by omega)] at h3
  obtain ⟨cell, hcell, hccls, hcst⟩ := h3
  have hcl : s.vm.findClass nm = some cell.cls := by rw [hccls]; exact hKn.2.2.1 k nm hnm
  rw [hsp] at hex
  obtain ⟨pre', rest', hex1, hex2, hex3⟩ := List.map_eq_append_iff.mp hex
  obtain ⟨x', suf', hex4, hex5, hex6⟩ := List.map_eq_cons_iff.mp hex3
  subst hex4
  simp only [Prod.mk.injEq] at hex5
  obtain ⟨u1, u2, u3, u4⟩ := hex5
  obtain ⟨c3, c4, hc3, hc4, hasg⟩ := Cond.castable_spec (hts _ hl2)
  cases Option.some.inj (hc3.symm.trans hcl)
  cases Option.some.inj (hc4.symm.trans hcl)
  have hlk1 := hts _ hl1
  rw [← u4] at hlk1 hct
  obtain ⟨c5, hc5, hcl5⟩ := Cond.classLink_spec hown hlk1 e.platform hpl
  cases Option.some.inj (hcl.symm.trans hc5)
  obtain ⟨vm', X', st'⟩ := X.thenCaughtThrough a (g := F0 m pc ls st) rfl (Steps.refl _) hcell hcst (by obtain ⟨k9, h9, -⟩ := Vm.findClass_spec hcl; exact ⟨k9, h9⟩) pre' x' suf' hex1
    (fun z hz => by
      have hz2 : (z.startPc, z.endPc, z.handlerPc, z.catchType) ∈ pre := by rw [← hex2]; exact List.mem_map_of_mem hz
      obtain ⟨hz0, nj, hj1, hj2⟩ := hpre _ hz2
      obtain ⟨c6, hc6, hcl6⟩ := Cond.classLink_spec hown (hts _ hj1) e.platform hpl
      obtain ⟨a8, b8, n1, n2, n3⟩ := hKn.2.2.2.2.2.1 _ hj2
      cases Option.some.inj (n1.symm.trans hcl)
      cases Option.some.inj (n2.symm.trans hc6)
      exact Or.inr ⟨hz0, _, hcl6, n3⟩) (by simp [covers, u1, u2, hs0, he0]) (Or.inr ⟨hct, _, hcl5, hasg⟩)
  rw [u3] at st'
  exact ⟨vm', X', st'⟩
/-- a call, whose exceptions are caught here -/
theorem xcallC {l : Launch} {G : xG} {fr wd fr' wd' : Nat} {M M' : xM} {pc : Nat} {L : List (Nat × Value)} {st0 st : List Value} {h : xH} {Q Q' : xR → xH → Prop} {As : List Value} {ig : Instr} (hd : decode (xMc M) pc = .ok (ig, 3)) (hpl : plainFor (xMn M') = true) (hh : xMh M' = []) (hln : (lg_sl As).length ≤ xMl M')
    (hfr : fr' + 1 ≤ fr) (hwd : 19 + xMl M' + wd' ≤ wd) (hw1 : Cond.code (xMn M') (xMc M') (xMl M') (xMr M') ∈ xTT) (hw2 : Cond.initialized (xMn M').cls ∈ xTT) (hst : (st.map fun v => v.category).sum ≤ 8)
    (go : ∀ (p : Program) (e : Env) (R : Room) (s : State) (m : MethodId) (args : Array Value) (below : List Frame) (meth : Method) (c : Code) (T : State) (locs : List Loc) (cells slots : Nat) (ls : Array Slot), xCx G M p s m meth c → xRep G h T.heap → lv_has ls (xMl M) L → Stand p l e R s m args below meth c T locs cells slots →
      ∃ (vm₁ : Vm) (mk : MethodId), Stand p l e R s m args below meth c (T.setVm vm₁) locs cells slots ∧ s.methodNamed? (xMn M') = some mk ∧ ∀ target, (∀ acts, Steps p.tables e below (doInvoke e ((T.setVm vm₁).setTop (F0 m pc ls st)) acts mk As.toArray).1 target) → Steps p.tables e below (T.setTop (F0 m pc ls st0)) target)
    (hq : xVM l G fr' wd' M' As h Q') (kr : ∀ (v : Option Value) (h1 : xH), Q' (.inl v) h1 → xV l G fr wd M (pc + 3) L (v.toList ++ st) h1 Q) (kc : ∀ (k a : Nat) (h1 : xH), Q' (.inr (k, a)) h1 → ∃ hp : Nat, xHnd M pc k hp ∧ xV l G fr wd M hp L [.ref a] h1 Q) :
    xV l G fr wd M pc L st0 h Q := by
  obtain ⟨r1, h1, q1, y1, y2, y⟩ := hq
  cases r1 with
  | inl v =>
    obtain ⟨r, h', q, x1, x2, x⟩ := kr v h1 q1
    refine ⟨r, h', q, Nat.le_trans y1 x1, Nat.le_trans y2 x2, fun p e R s m args below meth c H locs cells slots ls C hR hl hf b1 b2 b3 b4 => ?_⟩
    have hC := C
    obtain ⟨hx, hb, hml, hr', hlk, hown, hmn, hKn, hex⟩ := hC
    intro T hT X
    subst hT
    obtain ⟨vm₁, mk, X₁, hnm, hstep⟩ := go p e R s m args below meth c T locs cells slots ls C hR hl X
    obtain ⟨T', L', X', hL', hR1, hst'⟩ := xBackR (h1 := h1) (v := v) X₁ hKn hpl hh hln (xMet hpl hh hln y) hw1 hw2 hR (by omega) (by omega) (Nat.le_trans hfr b3) (Nat.le_trans hwd b4) (g := F0 m pc ls st) rfl (by rw [hml]; exact hl.1) (by rw [hb]; exact hd) (lv_room hst) (X₁.named hnm)
    have e1 : (xnx h' - xnx h1) + ((xnx h1 - xnx h) + cells) = (xnx h' - xnx h) + cells := by omega
    have e2 : (xsl h' - xsl h1) + ((xsl h1 - xsl h) + slots) = (xsl h' - xsl h) + slots := by omega
    obtain ⟨t, a1, b1'⟩ := x p e R s m args below meth c T'.heap (locs ++ L') _ _ ls C hR1 hl (fun q0 hq0 => by
      rcases List.mem_append.mp hq0 with z | z
      · exact hf q0 z
      · exact hL' q0 z) (by rw [e1]; exact b1) (by rw [e2]; exact b2) b3 b4 T' rfl X'
    rw [e1, e2] at b1'
    exact ⟨t, hstep t (fun acts => by rw [doInvoke_state]; exact hst'.trans a1), b1'⟩
  | inr ka =>
    obtain ⟨k, a⟩ := ka
    obtain ⟨hp, hhnd, r, h', q, x1, x2, x⟩ := kc k a h1 q1
    refine ⟨r, h', q, Nat.le_trans y1 x1, Nat.le_trans y2 x2, fun p e R s m args below meth c H locs cells slots ls C hR hl hf b1 b2 b3 b4 => ?_⟩
    have hC := C
    obtain ⟨hx, hb, hml, hr', hlk, hown, hmn, hKn, hex⟩ := hC
    intro T hT X
    subst hT
    obtain ⟨vm₁, mk, X₁, hnm, hstep⟩ := go p e R s m args below meth c T locs cells slots ls C hR hl X
    obtain ⟨T', L', X', hL', hTa, hR1, hst'⟩ := xBackT (h1 := h1) X₁ hKn (xMetT hpl hh hln y) hw1 hw2 hR (by omega) (by omega) (Nat.le_trans hfr b3) (Nat.le_trans hwd b4) (g := F0 m pc ls st) rfl (by rw [hml]; exact hl.1) (by rw [hb]; exact hd) (lv_room hst) (X₁.named hnm)
    obtain ⟨vm₂, X₂, hst2⟩ := xcaught (ls := ls) (st := st) X' C hTa hR1 hhnd
    have e1 : (xnx h' - xnx h1) + ((xnx h1 - xnx h) + cells) = (xnx h' - xnx h) + cells := by omega
    have e2 : (xsl h' - xsl h1) + ((xsl h1 - xsl h) + slots) = (xsl h' - xsl h) + slots := by omega
    obtain ⟨t, a1, b1'⟩ := x p e R s m args below meth c (T'.setVm vm₂).heap (locs ++ L') _ _ ls C hR1 hl (fun q0 hq0 => by
      rcases List.mem_append.mp hq0 with z | z
      · exact hf q0 z
      · exact hL' q0 z) (by rw [e1]; exact b1) (by rw [e2]; exact b2) b3 b4 (T'.setVm vm₂) rfl X₂
    rw [e1, e2] at b1'
    exact ⟨t, hstep t (fun acts => by rw [doInvoke_state]; exact (hst'.trans hst2).trans a1), b1'⟩
/-- a call on an object, whose exceptions are caught here -/
theorem x_callVC {l : Launch} {G : xG} {fr wd fr' wd' : Nat} {M M' : xM} {pc : Nat} {L : List (Nat × Value)} {st : List Value} {h : xH} {Q Q' : xR → xH → Prop} {As : List Value} {ix k b : Nat} {C : vw_C} (hd : decode (xMc M) pc = .ok (.invokevirtual ix, 3)) (hT : xT h b = k + 1) (hc : xcls[k]? = some C) (hpl : plainFor (xMn M') = true) (hh : xMh M' = []) (hln : (lg_sl (.ref b :: As)).length ≤ xMl M')
    (hfr : fr' + 1 ≤ fr) (hwd : 19 + xMl M' + wd' ≤ wd) (hw1 : Cond.code (xMn M') (xMc M') (xMl M') (xMr M') ∈ xTT) (hw2 : Cond.initialized (xMn M').cls ∈ xTT) (hw3 : Cond.methodLink (xMn M).cls ix (xMn M') ∈ xTT) (hw4 : Cond.instanceMethod (xMn M') ∈ xTT) (hw5 : Cond.selects C.1 (xMn M') (xMn M') ∈ xTT)
    (hy : (xMn M').cls ≠ "java/lang/invoke/MethodHandle" ∧ (xMn M').cls ≠ "java/lang/invoke/VarHandle") (hn : (parseMethodDescriptor (xMn M').desc).map (fun d => d.parameters.length) = some As.length) (hst : (st.map fun v => v.category).sum ≤ 8)
    (hq : xVM l G fr' wd' M' (.ref b :: As) h Q') (kc : ∀ (k a : Nat) (h1 : xH), Q' (.inr (k, a)) h1 → ∃ hp : Nat, xHnd M pc k hp ∧ xV l G fr wd M hp L [.ref a] h1 Q) (kr : ∀ (v : Option Value) (h1 : xH), Q' (.inl v) h1 → xV l G fr wd M (pc + 3) L (v.toList ++ st) h1 Q) :
    xV l G fr wd M pc L (As.reverse ++ .ref b :: st) h Q := by
  refine xcallC hd hpl hh hln hfr hwd hw1 hw2 hst (fun p e R s m args below meth c T locs cells slots ls Cx hR hl X => ?_) hq kr kc
  obtain ⟨cellB, c1, c2, c3, -⟩ := xobj hR hT hc
  obtain ⟨hx, hb, hml, hr', hlk, hown, hmn, hKn, hex⟩ := Cx
  have hts := hKn.2.2.2.1 args
  have hcls : s.vm.findClass C.1 = some cellB.cls := by rw [c2]; exact (hKn.1 k C hc).2.1
  obtain ⟨mk, methM, hnamed, hmethM, hstM, habM⟩ := Cond.instanceMethod_spec (hts _ hw4)
  obtain ⟨methM', cM, hmethM', -, -, -, -, -, -, hsigM⟩ := Cond.code_spec hnamed (hts _ hw1)
  cases hmethM.symm.trans hmethM'
  obtain ⟨c2', r2, m2, q1, q2, q3, q4, kP, hkP, hkPi⟩ := Cond.selects_spec (hts _ hw5)
  cases hcls.symm.trans q1
  cases (State.methodFound?_of_named hnamed hy).symm.trans q2
  cases hnamed.symm.trans q3
  have hselP : selectMethod e.platform s.vm cellB.cls mk = .method mk := by rw [Launch.admits_selectMethod X.admits]; exact q4
  rw [hsigM] at hn
  obtain ⟨vm₁, X₁, hstep₁⟩ := X.invokevirtual hx hown (hts _ hw3) hnamed hmethM hstM hkP hkPi hy (a := b) (cell := cellB) c1
    (fun z hz => by rw [c3] at hz; cases hz) hselP hmethM habM hkP hkPi (g := F0 m pc ls (As.reverse ++ .ref b :: st)) rfl (argsL := As) (rest := st) (Option.some.inj hn).symm rfl (by rw [hb]; exact hd)
  exact ⟨vm₁, mk, X₁, hnamed, hstep₁⟩
/-- a private constructor of a nest mate -/
theorem x_callIN {l : Launch} {G : xG} {fr wd fr' wd' : Nat} {M M' : xM} {pc : Nat} {L : List (Nat × Value)} {st : List Value} {h : xH} {Q Q' : xR → xH → Prop} {As : List Value} {ix b : Nat} {host : String} (hd : decode (xMc M) pc = .ok (.invokespecial ix, 3)) (hpl : plainFor (xMn M') = true) (hh : xMh M' = []) (hln : (lg_sl (.ref b :: As)).length ≤ xMl M') (hfr : fr' + 1 ≤ fr) (hwd : 19 + xMl M' + wd' ≤ wd) (hr0 : xMr M' = none) (hni : (xMn M').name = "<init>")
    (hw1 : Cond.code (xMn M') (xMc M') (xMl M') (xMr M') ∈ xTT) (hw2 : Cond.initialized (xMn M').cls ∈ xTT) (hw3 : Cond.methodLinkNest (xMn M).cls ix (xMn M') host ∈ xTT) (hw4 : Cond.instanceMethod (xMn M') ∈ xTT)
    (hy : (xMn M').cls ≠ "java/lang/invoke/MethodHandle" ∧ (xMn M').cls ≠ "java/lang/invoke/VarHandle") (hn : (parseMethodDescriptor (xMn M').desc).map (fun d => d.parameters.length) = some As.length) (hst : (st.map fun v => v.category).sum ≤ 8) (hno : ∀ q ∈ xMh M, ¬ (q.1 ≤ pc ∧ pc < q.2.1))
    (hq : xVM l G fr' wd' M' (.ref b :: As) h Q') (kt : ∀ (k a : Nat) (h1 : xH), Q' (.inr (k, a)) h1 → Q (.inr (k, a)) h1) (kr : ∀ (v : Option Value) (h1 : xH), Q' (.inl v) h1 → xV l G fr wd M (pc + 3) L (v.toList ++ st) h1 Q) :
    xV l G fr wd M pc L (As.reverse ++ .ref b :: st) h Q := by
  refine xcall hd hpl hh hln hfr hwd hw1 hw2 hst (fun p e R s m args below meth c T locs cells slots ls Cx hR hl X => ?_) hq kr kt hno
  obtain ⟨hx, hb, hml, hr', hlk, hown, hmn, hKn, hex⟩ := Cx
  have hts := hKn.2.2.2.1 args
  have hpl2 : e.platform.magicAccessors = ({} : Platform).magicAccessors := by rw [X.admits.platform]
  have hc1 := hts _ hw1
  rw [hr0] at hc1
  obtain ⟨mk, methM, cM, kP, vm₁, hnamed, hmethM, hcodeM, -, hlocalsM, -, hkP, -, hW₁, hstep₁⟩ := Steps.initColdArgsNest (e := e) X.here hx X.warmed hpl2 hown hni hy (hts _ hw3) (hts _ hw4) hc1 (f := F0 m pc ls (As.reverse ++ .ref b :: st)) rfl (fun sig hs => by rw [hs] at hn; exact (Option.some.inj hn).symm) rfl (by rw [hb]; exact hd)
  exact ⟨vm₁, mk, X.noted hW₁, hnamed, hstep₁⟩

/-- the walk's own place, as if the method began here -/
theorem xrebase {p : Program} {l : Launch} {e : Env} {R : Room} {s : State} {m : MethodId} {args : Array Value} {below : List Frame} {meth : Method} {c : Code} {T : State} {locs : List Loc} {cells slots : Nat}
    (X : Stand p l e R s m args below meth c T locs cells slots) (hcc : cells ≤ R.cells) (hss : slots ≤ R.slots) : Stand p l e { frames := R.frames, cells := R.cells - cells, slots := R.slots - slots, locals := R.locals } (T.setFrames (.invoking m args :: below)) m args below meth c T [] 0 0 := by
  obtain ⟨g₀, hfr⟩ := X.frames_eq
  have hcur : T.cur < T.threads.size := State.cur_lt_of_frames hfr
  obtain ⟨t, ht, -⟩ := State.frames_cons hfr
  have hF : (T.setFrames (.invoking m args :: below)).frames = .invoking m args :: below := State.frames_setFrames _ hcur
  have hm : T.vm.method? m = some meth := X.method'
  refine ⟨X.admits, X.cas, X.clock, hF, ?_, ?_, hm, X.code, X.here, X.tail, State.WarmedH.refl _, ?_, ?_, ?_⟩
  · have hr := X.room
    have hh := X.heapSize
    have hu := X.used
    have hb := X.book
    have hl1 : (T.setFrames (.invoking m args :: below)).localsInUse = s.localsInUse := by
      rw [State.localsInUse_invoking hF (show (T.setFrames (.invoking m args :: below)).vm.method? m = some meth from hm) X.code, State.localsInUse_invoking X.frames X.method X.code]
    have hl2 : e.platform.stackLimits (T.setFrames (.invoking m args :: below)).me = e.platform.stackLimits s.me := by rw [State.stackLimits_setFrames]; exact X.limits
    have hl3 : (T.setFrames (.invoking m args :: below)).me.stackBytes = s.me.stackBytes := by rw [State.stackBytes_setFrames]; exact X.bytes
    simp only [State.hasRoom, Bool.and_eq_true, decide_eq_true_eq] at hr ⊢
    rw [hl1, hl2, hl3, hF]
    obtain ⟨⟨⟨⟨r1, r2⟩, r3⟩, r4⟩, r5⟩ := hr
    rw [X.frames] at r2
    refine ⟨⟨⟨⟨r1, r2⟩, ?_⟩, ?_⟩, ?_⟩
    · show T.heap.size + (R.cells - cells) ≤ _
      omega
    · show T.slotsUsed + (R.slots - slots) ≤ _
      omega
    · exact hb
  · have hh := X.hears
    rcases below with _ | ⟨y, r⟩
    · simpa [State.hears, X.method, hm] using hh
    · cases y <;> first | rfl | (simp only [State.hears, State.code?_eq] at hh ⊢; show Option.isSome _ = true; rw [show (T.setFrames _).vm = T.vm from rfl, X.warmed.alike.method?]; exact hh) | simpa [State.hears, X.method, hm] using hh
  · rw [State.stackLimits_setFrames]
  · rw [State.stackBytes_setFrames]
  · obtain ⟨t', ht', -⟩ := State.frames_cons hF
    have hback : (T.setFrames (.invoking m args :: below)).setFrames T.frames = T := by rw [State.setFrames_setFrames, State.setFrames_self ht]
    have h1 := (State.sameButNew.refl (T.setFrames (.invoking m args :: below)) ht').setFrames T.frames (Array.getElem?_eq_some_iff.mp ht').1
    rw [hback] at h1
    exact h1
section XTHROW
variable {l : Launch} {G : xG} {fr wd : Nat} {M : xM} {pc : Nat} {L : List (Nat × Value)} {st : List Value} {h : xH} {Q : xR → xH → Prop}
/-- the words that an exception's making reads: the tables', and two of the statics -/
theorem xownA {G : xG} {U : State} {args : Array Value} {own cls : String} {ic : Nat} {names : List String} (hK : xKn G U) (hH : ∀ q : Nat, q < xGz G → U.heap[q]? = (xGH G)[q]?) (hw : ∀ w ∈ Bundle.ownAtoms0 own ic cls names, w ∈ xTT ∨ w ∈ xSWW) : ∀ w ∈ Bundle.ownAtoms0 own ic cls names, w.before args U = true := by
  intro w hm
  rcases hw w hm with z | z
  · exact hK.2.2.2.1 args w z
  · have key : ∀ n ds : String, (Bundle.tN, n, ds) ∈ xSS → (Cond.laysStatic Bundle.tN n ds).before args U = true ∧ (Cond.isRef (.static Bundle.tN n ds)).before args U = true := by
      intro n ds hq
      obtain ⟨c, k, i, f, a, cell, v, h1, h2, h3, h4, h5, h6, h7, h8, h9, h10, h11⟩ := hK.2.2.2.2.1 _ hq
      have h5' : U.heap[a]? = some cell := by rw [hH a (Array.getElem?_eq_some_iff.mp h5).1]; exact h5
      refine ⟨Cond.laysStatic_of h1 h2 h3 h4 h5' h6 h7 h8 h9, ?_⟩
      have he : (Term.static Bundle.tN n ds).eval args U none [] U = some v := by
        have h2' : U.fieldFound? Bundle.tN n ds = some (c, k, i, f) := h2
        simp [Term.eval, State.fieldNamed?, h2', h3, h4, h5', h6, h10]
      show (Cond.isRef (.static Bundle.tN n ds)).holds args U none U [] = true
      simp only [Cond.holds, Cond.value, he]
      rcases h11 with rfl | ⟨t, rfl⟩ <;> rfl
    simp only [xSWW, List.mem_cons, List.not_mem_nil, or_false] at z
    rcases z with rfl | rfl | rfl | rfl
    · exact (key _ _ (List.mem_of_getElem? (l := xSS) (i := 0) rfl)).1
    · exact (key _ _ (List.mem_of_getElem? (l := xSS) (i := 1) rfl)).1
    · exact (key _ _ (List.mem_of_getElem? (l := xSS) (i := 0) rfl)).2
    · exact (key _ _ (List.mem_of_getElem? (l := xSS) (i := 1) rfl)).2
theorem x_throw {ix ic k : Nat} {cls : String} {names : List String} (hd0 : decode (xMc M) pc = .ok (.new ix, 3)) (hd3 : decode (xMc M) (pc + 3) = .ok (.dup, 1)) (hd4 : decode (xMc M) (pc + 4) = .ok (.invokespecial ic, 3)) (hd7 : decode (xMc M) (pc + 7) = .ok (.athrow, 1))
    (hk : xexn[k]? = some cls) (hfit : Bundle.fit cls = true) (hfits : ∀ n ∈ names, Bundle.fit n = true) (hlen : names.length ≤ 3) (hw1 : Cond.classLink (xMn M).cls ix cls ∈ xTT) (hw2 : Cond.instantiable cls 6 ∈ xTT) (hw3 : Cond.initialized cls ∈ xTT)
    (hw : ∀ w ∈ Bundle.ownAtoms0 (xMn M).cls ic cls names, w ∈ xTT ∨ w ∈ xSWW) (hno : xMh M = []) (hnt : l.stackTraces = false) (hdp : 7 ≤ fr) (hdw : 102 ≤ wd) (hst : (st.map fun v => v.category).sum ≤ 8) (q : Q (.inr (k, xnx h)) (xnw h (200 + k) 0 6)) : xV l G fr wd M pc L st h Q := by
  refine ⟨.inr (k, xnx h), xnw h (200 + k) 0 6, q, Nat.le_succ _, Nat.le_add_right _ _, fun p e R s m args below meth c H locs cells slots ls C hR hl hf b1 b2 b3 b4 => ?_⟩
  have b1' : (xnx h + 1 - xnx h) + cells ≤ R.cells := b1
  have b2' : (xsl h + 6 - xsl h) + slots ≤ R.slots := b2
  intro T hT X
  subst hT
  obtain ⟨hx, hb, hml, hr', hlk, hown, hmn, hKn, hex⟩ := C
  have htr : e.platform.stackTraces = false := (show e.platform.stackTraces = l.stackTraces by rw [X.admits.platform]).trans hnt
  have hKs : xKn G (T.setFrames (.invoking m args :: below)) := hKn.moved (U := T.setFrames (.invoking m args :: below)) X.warmed
  have hts := hKs.2.2.2.1 args
  have hown' : (T.setFrames (.invoking m args :: below)).vm.findClass (xMn M).cls = some m.cls := by
    show T.vm.findClass _ = _
    rw [X.warmed.alike.findClass]
    exact hown
  have he : c.exceptionTable.toList = [] := by
    rw [hno] at hex
    exact List.map_eq_nil_iff.mp hex
  have hcX : (T.setFrames (.invoking m args :: below)).vm.findClass cls = some (xGA G (200 + k)) := hKs.2.2.1 k cls hk
  have X' := xrebase X (by omega) (by omega)
  have K : W p l e { frames := R.frames, cells := R.cells - cells, slots := R.slots - slots, locals := R.locals } (T.setFrames (.invoking m args :: below)) m args below meth c T.heap [] 0 0
      (fun t => t.status = .running ∧ Ended t below (.threw (xnx h)) ∧ (T.setFrames (.invoking m args :: below)).WarmedH t.vm ∧ (T.setFrames (.invoking m args :: below)).sameButNew ({ t with vm := (T.setFrames (.invoking m args :: below)).vm } : State) [] 1 6 ∧ ∃ ce, t.heap[xnx h]? = some ce ∧ Bundle.OwnCell args (T.setFrames (.invoking m args :: below)) cls (xnx h) .null ce) (F0 m pc ls st) := by
    refine W.newcK hx hb hown' (hts _ hw1) (hts _ hw2) (hts _ hw3) rfl hd0 (by show 0 + 1 ≤ R.cells - cells; omega) (by show 0 + 6 ≤ R.slots - slots; omega) hcX hR.1 fun H2 kC hkC g1 g2 g3 => ?_
    refine lv_dup (pc := pc + 3) hx hb hd3 rfl ?_
    intro T2 hT2 X2
    obtain ⟨U, w1, w2, w3, w4, w5, w6⟩ := X2.ctorThrow0 hx htr hown' hfit hfits (xownA hKs hR.2.2.1 hw) (fun x hx9 => by cases hx9) hcX hkC (by rw [hT2]; exact g1) (by show T.heap.size ≤ xnx h; rw [hR.1]; exact Nat.le_refl _) (g := F0 m (pc + 4) ls (.ref (xnx h) :: .ref (xnx h) :: st)) rfl (by rw [hml]; exact hl.1) rfl rfl (rest := st) rfl (by rw [hb]; exact hd4) (by rw [hb]; exact hd7) (by rw [he]; intro x hx9; cases hx9)
      (by show names.length + 3 < R.frames; omega) (by show 2 * 0 + (((Value.ref (xnx h)) :: st).map fun v => v.category).sum + (13 * (names.length + 1) + 41) ≤ R.locals; rw [List.map_cons, List.sum_cons, show (Value.ref (xnx h)).category = 1 from rfl]; omega) hlk
    exact ⟨U, w1, w2, w3, w4, w5, w6⟩
  obtain ⟨t, a1, a2, a3, a4, a5, ce, a6, a7⟩ := K T rfl X'
  obtain ⟨g₀, hfr⟩ := X.frames_eq
  have hcur : T.cur < T.threads.size := State.cur_lt_of_frames hfr
  obtain ⟨th, hth, -⟩ := State.frames_cons hfr
  have hs2 := X.same.trans (((State.sameButNew.refl (T.setVm s.vm) hth).setFrames (.invoking m args :: below) hcur).trans (a5.setVm s.vm))
  have hsz : t.heap.size = xnx h + 1 := by
    have z2 := a5.2.2.1
    have z2' : t.heap.size ≤ T.heap.size + 1 := z2
    have z3 := (Array.getElem?_eq_some_iff.mp a6).1
    rw [hR.1] at z2'
    omega
  have hold : ∀ q0 : Nat, q0 < xnx h → t.heap[q0]? = T.heap[q0]? := by
    intro q0 hq0
    have hlt : q0 < T.heap.size := by rw [hR.1]; exact hq0
    obtain ⟨cT, hcT⟩ : ∃ cT, T.heap[q0]? = some cT := ⟨_, Array.getElem?_eq_getElem hlt⟩
    rw [hcT]
    exact State.sameButNew.old_cell a5 hcT
  refine ⟨t, a1, a2, a3, ⟨xr_s _ _ _, ?_⟩, State.WarmedH.trans X.warmed a4, locs, ?_, hf⟩
  · refine hR.new hsz hold ?_
    unfold xCell
    rw [if_neg (by omega), if_neg (by omega)]
    refine ⟨ce, a6, ?_, by rw [a7.vm]; rfl⟩
    exact Option.some.inj (a7.cls.symm.trans hcX)
  · have e1 : (xnx (xnw h (200 + k) 0 6) - xnx h) + cells = cells + (0 + 1) := by
      show (xnx h + 1 - xnx h) + cells = _
      omega
    have e2 : (xsl (xnw h (200 + k) 0 6) - xsl h) + slots = slots + (0 + 6) := by
      show (xsl h + 6 - xsl h) + slots = _
      omega
    rw [e1, e2]
    simp only [List.append_nil] at hs2
    exact hs2
end XTHROW

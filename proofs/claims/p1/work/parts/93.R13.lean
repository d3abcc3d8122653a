/-! THE CALLS, SIDE BY SIDE: T what the reference comes to, a its answer -/
def XQ (z : Nat) (h0 : xH) (T : Nat → Nat → Int32) (V : Option Value) (cd : Nat → Nat) (K : Nat → Prop) : xR → xH → Prop := fun r h' => ∃ D b tk c sz, RA T D tk b c sz ∧ CZ D tk ∧
  ((r = .inl V ∧ h' = cset z D b tk h0 ∧ T 0 14 = nI 0) ∨ (∃ k, K k ∧ r = .inr (k, xnx (cset z D b tk h0)) ∧ h' = thrw k (cset z D b tk h0) ∧ T 0 14 = nI (cd k)))
theorem XQ.ok {z : Nat} {h0 : xH} {T : Nat → Nat → Int32} {V : Option Value} {cd : Nat → Nat} {K : Nat → Prop} {r : xR} {h' : xH} {D : Nat → Nat → Int32} {b : Bool} {tk : Nat → Option Nat} {c : Nat} {sz : Nat → Nat} (hR : RA T D tk b c sz) (hz : CZ D tk) (e1 : r = .inl V) (e2 : h' = cset z D b tk h0) (e3 : T 0 14 = nI 0) : XQ z h0 T V cd K r h' := ⟨D, b, tk, c, sz, hR, hz, Or.inl ⟨e1, e2, e3⟩⟩
theorem XQ.no {z : Nat} {h0 : xH} {T : Nat → Nat → Int32} {V : Option Value} {cd : Nat → Nat} {K : Nat → Prop} {r : xR} {h' : xH} {D : Nat → Nat → Int32} {b : Bool} {tk : Nat → Option Nat} {c : Nat} {sz : Nat → Nat} (hR : RA T D tk b c sz) (hz : CZ D tk) {k : Nat} (hK : K k) (e1 : r = .inr (k, xnx (cset z D b tk h0))) (e2 : h' = thrw k (cset z D b tk h0)) (e3 : T 0 14 = nI (cd k)) : XQ z h0 T V cd K r h' := ⟨D, b, tk, c, sz, hR, hz, Or.inr ⟨k, hK, e1, e2, e3⟩⟩
section XR13
variable {l : Launch} {G : xG} {h0 : xH} {z : Nat} {S C : Nat → Nat → Int32} {b : Bool} {tk : Nat → Option Nat} {c : Nat} {sz : Nat → Nat}
theorem e_chunk (hnt : l.stackTraces = false) (hs : CSh h0 z) (h : RA S C tk b c sz) (hz : CZ C tk) (x : Int64) (n f : Int32) : xVM l G 8 124 m_A_chunk [.ref z, .long x, .int n, .int f] (cset z C b tk h0) (XQ z h0 (ckS S c x n f).1 (some (.int (ckS S c x n f).2)) cd_chunk (fun k => k = 0 ∨ k = 1)) := by
  obtain ⟨hc, hc6⟩ := h.2.1.1.2.1
  have e7 : C 0 7 = S 0 26 := h.2.2.2.2.2.1.1
  by_cases ok : okf n f
  · by_cases hu : C 0 7 = 0 ∧ c < 6
    · obtain ⟨N, rfl, h1, h2⟩ := rng_of (by decide) (by decide) ok.1
      have cl : (nI N).toNatClampNeg = N := nI_clamp (by omega)
      have j0 : S 0 26 = 0 := e7.symm.trans hu.1
      have eT : ckS S c x (nI N) f = (xu (xu (ckL (xu S 0 14 (nI 0)) c x f N) 1 c (nI N)) 0 13 (nI (c + 1)), nI c) := by
        unfold ckS
        rw [if_pos ok, if_neg (by rintro (q | q); exact q j0; omega), cl]
      have e14 : xu (xu (ckL (xu S 0 14 (nI 0)) c x f N) 1 c (nI N)) 0 13 (nI (c + 1)) 0 14 = nI 0 := by
        rw [xu_j _ _ _ _ (by decide), xu_k _ _ _ (by decide), ckL_k (by decide), xu_s]
      rw [eT]
      dsimp only
      refine xV.imp (c_A_chunk hs x ok hc hu.2 hu.1) (fun r h' q => ?_)
      rw [cl] at q
      exact XQ.ok (h.chunk j0 hu.2 x ok.2 h1 h2) (hz.keep (fun w hw => by
        unfold chC
        rw [show ∀ (F : Nat → Nat → Int32) v, xu F 0 8 v (50 + w) 3 = F (50 + w) 3 from fun F v => if_neg (by omega)]
        show (if 50 + w = 55 + 3 * c ∧ 3 < N then bval x f 3 else xu C (54 + 3 * c) 1 (nI N) (50 + w) 3) = _
        rw [if_neg (by omega)]; exact if_neg (by omega))) q.1 q.2 e14
    · have g : ¬ S 0 26 = 0 ∨ c = 6 := by
        by_cases u : C 0 7 = 0
        · right
          have : ¬ c < 6 := fun q => hu ⟨u, q⟩
          omega
        · exact Or.inl (fun q => u (e7.trans q))
      have eT : ckS S c x n f = (xu (xu S 0 14 (nI 0)) 0 14 (nI 2), nI 0) := by unfold ckS; rw [if_pos ok, if_pos g]
      rw [eT]
      dsimp only
      exact xV.imp (c_A_chunkX1 hnt hs x ok hc hc6 (by rcases g with q | q; exact Or.inl (fun w => q (e7.symm.trans w)); exact Or.inr q)) (fun r h' q => XQ.no ((h.thr _).thr _) hz (Or.inr rfl) q.1 q.2 (xu_s _ _ _ _))
  · have eT : ckS S c x n f = (xu S 0 14 (nI 1), nI 0) := by unfold ckS; rw [if_neg ok]
    rw [eT]
    dsimp only
    exact xV.imp (c_A_chunkX0 hnt x ok) (fun r h' q => XQ.no (h.thr _) hz (Or.inl rfl) q.1 q.2 (xu_s _ _ _ _))
theorem e_speed (hnt : l.stackTraces = false) (hs : CSh h0 z) (h : RA S C tk b c sz) (hz : CZ C tk) (n f : Int32) : xVM l G 8 124 m_A_speed [.ref z, .int n, .int f] (cset z C b tk h0) (XQ z h0 (spS S n f) none cd_speed (fun k => k = 0)) := by
  by_cases ok : rng n 0 3 ∧ rng f 1 4
  · obtain ⟨N, rfl, -, h2⟩ := rng_of (by decide) (by decide) ok.1
    have eT : spS S (nI N) f = xu (xu S 0 14 (nI 0)) 3 N f := by unfold spS; rw [if_pos ok, nI_clamp (by omega)]
    rw [eT]
    exact xV.imp (c_A_speed hs (by omega) ok.2) (fun r h' q => XQ.ok (h.speed (by omega) ok.2) (hz.keep (fun w hw => if_neg (by omega))) q.1 q.2 (by rw [xu_k _ _ _ (by decide), xu_s]))
  · have eT : spS S n f = xu S 0 14 (nI 1) := by unfold spS; rw [if_neg ok]
    rw [eT]
    exact xV.imp (c_A_speedX hnt ok) (fun r h' q => XQ.no (h.thr _) hz rfl q.1 q.2 (xu_s _ _ _ _))
theorem e_worker (hnt : l.stackTraces = false) (hs : CSh h0 z) (h : RA S C tk b c sz) (hz : CZ C tk) (n : Int32) {up : Int32} (hup : up = nI 0 ∨ up = nI 1) : xVM l G 8 124 m_A_worker [.ref z, .int n, .int up] (cset z C b tk h0) (XQ z h0 (woS S n up c) none cd_worker (fun k => k = 0)) := by
  obtain ⟨hc, hc6⟩ := h.2.1.1.2.1
  have e14 := woS_14 (S := S) (w := n) (up := up) (c := c)
  by_cases ok : rng n 0 3
  · obtain ⟨N, rfl, -, h2⟩ := rng_of (by decide) (by decide) ok
    rw [bI_f (fun q => q ok)] at e14
    exact xV.imp (c_A_worker hs h.2.1.1.1 h.2.1.2.1 (by omega) up hc hc6 hup) (fun r h' q => XQ.ok (h.worker (by omega) hup) (hz.worker (by omega) up hc6) q.1 q.2 e14)
  · have eT : woS S n up c = xu S 0 14 (nI 1) := by unfold woS; rw [if_neg ok]
    rw [eT]
    exact xV.imp (c_A_workerX hnt ok) (fun r h' q => XQ.no (h.thr _) hz rfl q.1 q.2 (xu_s _ _ _ _))
theorem e_filter (hs : CSh h0 z) (h : RA S C tk b c sz) (hz : CZ C tk) (v : Int32) : xVM l G 0 0 m_A_filter [.ref z, .int v] (cset z C b tk h0) (XQ z h0 (xu (xu S 0 14 (nI 0)) 0 15 v) none (fun k => k) (fun _ => False)) :=
  xV.imp (c_A_filter hs v) (fun r h' q => XQ.ok (h.filter v) (hz.keep (fun w hw => if_neg (by omega))) q.1 q.2 (by rw [xu_j _ _ _ _ (by decide), xu_s]))
theorem e_begin (hnt : l.stackTraces = false) (hs : CSh h0 z) (h : RA S C tk b c sz) (hz : CZ C tk) (m r p B : Int32) : xVM l G 8 124 m_A_begin [.ref z, .int m, .int r, .int p, .int B] (cset z C b tk h0) (XQ z h0 (bgS S c sz m r p B).1 (some (.int (bgS S c sz m r p B).2)) cd_begin (fun k => k = 0 ∨ k = 1)) := by
  have hv := h.2.1
  obtain ⟨hc, hc6⟩ := hv.1.2.1
  have e7 : C 0 7 = S 0 26 := h.2.2.2.2.2.1.1
  by_cases ok : okb m r p B
  · by_cases hu : C 0 7 = 0 ∧ 1 ≤ c
    · obtain ⟨P, rfl, hP1, hP3⟩ := rng_of (by decide) (by decide) ok.2.2.1
      obtain ⟨BB, rfl, hB2, hB6⟩ := rng_of (by decide) (by decide) ok.2.2.2
      have j0 : S 0 26 = 0 := e7.symm.trans hu.1
      have eT : bgS S c sz m r (nI P) (nI BB) = (bg2 S c sz m r (nI P) (nI BB), nI c) := by unfold bgS; rw [if_pos ok, if_neg (by rintro (q | q); exact q j0; omega)]
      have e14 : bg2 S c sz m r (nI P) (nI BB) 0 14 = nI 0 := by
        rw [bg2_s (by decide) (by decide)]
        unfold bg1
        rw [xu_j _ _ _ _ (by decide), xu_j _ _ _ _ (by decide), xu_j _ _ _ _ (by decide), xu_j _ _ _ _ (by decide), xu_j _ _ _ _ (by decide), xu_s]
      rw [eT]
      dsimp only
      refine xV.imp (c_A_begin hs ok hc hu.2 hc6 hu.1 hv.1.2.2.1 hv.1.2.2.2.1) (fun q h' w => ?_)
      rw [nI_clamp (by omega), nI_clamp (by omega)] at w
      obtain ⟨E', hE, q1, q2⟩ := w
      have hb := jo_lt b
      exact XQ.ok (h.begin hz j0 ok hP1 hP3 hB2 hB6 hE) (hz.keep (fun w hw => by rw [tq_out (by omega), hE _ _ (by omega) (by omega) (by omega), bgE_k hc6 hP3 (by omega) (by omega) (by omega)])) q1 q2 e14
    · have g : ¬ S 0 26 = 0 ∨ c = 0 := by
        by_cases u : C 0 7 = 0
        · right
          have : ¬ 1 ≤ c := fun q => hu ⟨u, q⟩
          omega
        · exact Or.inl (fun q => u (e7.trans q))
      have eT : bgS S c sz m r p B = (xu (xu S 0 14 (nI 0)) 0 14 (nI 2), nI 0) := by unfold bgS; rw [if_pos ok, if_pos g]
      rw [eT]
      dsimp only
      exact xV.imp (c_A_beginX1 hnt hs ok hc (by rcases g with q | q; exact Or.inl (fun w => q (e7.symm.trans w)); exact Or.inr q)) (fun r h' q => XQ.no ((h.thr _).thr _) hz (Or.inr rfl) q.1 q.2 (xu_s _ _ _ _))
  · have eT : bgS S c sz m r p B = (xu S 0 14 (nI 1), nI 0) := by unfold bgS; rw [if_neg ok]
    rw [eT]
    dsimp only
    exact xV.imp (c_A_beginX0 hnt ok) (fun r h' q => XQ.no (h.thr _) hz (Or.inl rfl) q.1 q.2 (xu_s _ _ _ _))
theorem e_stop (hnt : l.stackTraces = false) (hs : CSh h0 z) (h : RA S C tk b c sz) (hz : CZ C tk) : xVM l G 8 122 m_A_stop [.ref z] (cset z C b tk h0) (XQ z h0 (stS S) none cd_stop (fun k => k = 1)) := by
  have e7 : C 0 7 = S 0 26 := h.2.2.2.2.2.1.1
  by_cases u : C 0 7 = 0
  · have eT : stS S = xu S 0 14 (nI 1) := by unfold stS; rw [if_pos (e7.symm.trans u)]
    rw [eT]
    exact xV.imp (c_A_stopX hnt hs u) (fun r h' q => XQ.no (h.thr _) hz rfl q.1 q.2 (xu_s _ _ _ _))
  · have j1 : ¬ S 0 26 = 0 := fun q => u (e7.trans q)
    have e14 : stS S 0 14 = nI 0 := by unfold stS; rw [if_neg j1, gvS_k _ _ _ (by decide) (by decide), xu_j _ _ _ _ (by decide), xu_s]
    exact xV.imp (c_A_stop hs u) (fun r h' q => XQ.ok (h.stop j1) ((hz.keep (fun w hw => if_neg (by omega))).dp _) q.1 q.2 e14)
/-- run: r, np, Q of the job that is under way -/
theorem e_run (hnt : l.stackTraces = false) (hs : CSh h0 z) (h : RA S C tk b c sz) (hz : CZ C tk) (n : Int32) : ∃ r np, (¬ S 0 26 = 0 → TI S c r np) ∧ xVM l G 8 124 m_A_run [.ref z, .int n] (cset z C b tk h0) (XQ z h0 (rnS S c r np n).1 (some (.int (rnS S c r np n).2)) cd_run (fun k => k = 0 ∨ k = 1 ∨ k = 3)) := by
  have e7 : C 0 7 = S 0 26 := h.2.2.2.2.2.1.1
  by_cases ok : rng n 1 100
  · by_cases u : C 0 7 = 0
    · have j0 : S 0 26 = 0 := e7.symm.trans u
      refine ⟨0, 0, fun q => absurd j0 q, ?_⟩
      have eT : rnS S c 0 0 n = (xu (xu S 0 14 (nI 0)) 0 14 (nI 2), nI 0) := by unfold rnS; rw [if_pos ok, if_pos j0]
      rw [eT]
      dsimp only
      exact xV.imp (c_A_runX1 hnt hs ok u) (fun r h' q => XQ.no ((h.thr _).thr _) hz (Or.inr (Or.inl rfl)) q.1 q.2 (xu_s _ _ _ _))
    · have j1 : ¬ S 0 26 = 0 := fun q => u (e7.trans q)
      obtain ⟨N, rfl, -, h2⟩ := rng_of (by decide) (by decide) ok
      obtain ⟨r, np, q, Q, hJ, hA, hR⟩ := h.run j1 N
      refine ⟨r, np, fun _ => hJ.2.2.2.2.2.2.2.1, ?_⟩
      have eT : rnS S c r np (nI N) = ((rnL (xu S 0 14 (nI 0)) c r np N).1, if (rnL (xu S 0 14 (nI 0)) c r np N).1 0 14 ≤ 0 then nI (rnL (xu S 0 14 (nI 0)) c r np N).2 else nI 0) := by unfold rnS; rw [if_pos ok, if_neg j1, nI_clamp (by omega)]
      have hZ := CZ.rn N 0 C tk hz hJ.2.2.2.2.2.2.2.2
      rw [eT]
      dsimp only
      refine xV.imp (c_A_run hnt hs hJ.2.2.2.2.2.2.2.2 ok h2 u) (fun q' h' w => ?_)
      generalize rnC b Q c r N 0 C tk = o at *
      generalize rnL (xu S 0 14 (nI 0)) c r np N = m at *
      obtain ⟨⟨⟨⟨C', tk'⟩, b'⟩, d⟩, k⟩ := o
      obtain ⟨T, d'⟩ := m
      rcases hA with ⟨a1, a2, a3⟩ | ⟨a1, a2⟩ | ⟨a1, a2⟩
      · dsimp only at a1 a2 a3 hR hZ ⊢
        subst a1
        subst a3
        rw [if_pos (by rw [a2]; decide)]
        exact XQ.ok hR hZ w.1 w.2 a2
      · dsimp only at a1 a2 hR hZ ⊢
        subst a1
        rw [if_neg (by rw [a2]; decide)]
        exact XQ.no hR hZ (Or.inr (Or.inl rfl)) w.1 w.2 a2
      · dsimp only at a1 a2 hR hZ ⊢
        subst a1
        rw [if_neg (by rw [a2]; decide)]
        exact XQ.no hR hZ (Or.inr (Or.inr rfl)) w.1 w.2 a2
  · refine (h.1.ti).elim (fun r hr => hr.elim (fun np hT => ⟨r, np, hT, ?_⟩))
    have eT : rnS S c r np n = (xu S 0 14 (nI 1), nI 0) := by unfold rnS; rw [if_neg ok]
    rw [eT]
    dsimp only
    exact xV.imp (c_A_runX0 hnt ok) (fun r h' q => XQ.no (h.thr _) hz (Or.inl rfl) q.1 q.2 (xu_s _ _ _ _))
theorem e_ofWorker (hnt : l.stackTraces = false) (hs : CSh h0 z) (h : RA S C tk b c sz) (hz : CZ C tk) (n f : Int32) : xVM l G 8 124 m_A_ofWorker [.ref z, .int n, .int f] (cset z C b tk h0) (XQ z h0 (xu S 0 14 (bI (¬ (rng n 0 3 ∧ rng f 0 3)))) (some (.int (owV S n f))) cd_ofWorker (fun k => k = 0)) := by
  by_cases ok : rng n 0 3 ∧ rng f 0 3
  · rw [bI_f (fun q => q ok)]
    obtain ⟨N, rfl, -, h2⟩ := rng_of (by decide) (by decide) ok.1
    obtain ⟨b1, b2, b3, b4, b5, b6⟩ := h.2.2.2.2.1 N (by omega)
    have e : owC C tk N f = owV S (nI N) f := by
      unfold owC owV
      rw [if_pos ok, nI_clamp (by omega), b1, b3, b4, b5]
      rfl
    rw [← e]
    exact xV.imp (c_A_ofWorker hs h.2.1.1.1 h.2.1.2.1 (by omega) ok.2) (fun r h' q => XQ.ok (h.thr _) hz q.1 q.2 (xu_s _ _ _ _))
  · rw [bI_t ok]
    exact xV.imp (c_A_ofWorkerX hnt ok) (fun r h' q => XQ.no (h.thr _) hz rfl q.1 q.2 (xu_s _ _ _ _))
end XR13

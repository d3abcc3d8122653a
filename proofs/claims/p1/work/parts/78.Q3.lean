/-! THE CALLS, SAFE: whatever is called, the class and the reference keep their shapes -/
theorem MI.ti {S : Nat → Nat → Int32} {c : Nat} {sz : Nat → Nat} (h : MI S c sz) : ∃ r np, ¬ S 0 26 = 0 → TI S c r np := by
  by_cases j : S 0 26 = 0
  · exact ⟨0, 0, fun q => absurd j q⟩
  · obtain ⟨r, np, hT⟩ := h.2.2.2.2.1 j
    exact ⟨r, np, fun _ => hT⟩
theorem MI.t14 {S : Nat → Nat → Int32} {c : Nat} {sz : Nat → Nat} (h : MI S c sz) (v : Int32) : MI (xu S 0 14 v) c sz := h.xu0 (by decide) (by decide) (by decide) v
theorem MI.output {S : Nat → Nat → Int32} {c : Nat} {sz : Nat → Nat} (h : MI S c sz) (p i w : Int32) : MI (ouS S p i w).1 c sz := by
  unfold ouS
  split
  · split
    · exact (h.t14 _).t14 _
    · exact h.t14 _
  · exact h.t14 _
theorem MI.find {S : Nat → Nat → Int32} {c : Nat} {sz : Nat → Nat} (h : MI S c sz) (oc : Nat → Nat) (k : Int32) (q : Nat) : MI (fdS S oc k q).1 c sz := by
  unfold fdS
  split
  · exact h.t14 _
  · exact (h.t14 _).t14 _
theorem MI.task {S : Nat → Nat → Int32} {c c' r np : Nat} {sz : Nat → Nat} (h : MI S c sz) (mp t w : Int32) : MI (tsS S c' r np mp t w).1 c sz := by
  unfold tsS
  split
  · split
    · exact (h.t14 _).t14 _
    · generalize nI (if mp = 0 then r else c') = y
      split
      · exact h.t14 _
      · exact (h.t14 _).t14 _
  · exact h.t14 _
theorem MI.outs {S : Nat → Nat → Int32} {c : Nat} {sz : Nat → Nat} (h : MI S c sz) : ∃ (q : Nat) (oc : Nat → Nat), S 0 25 = nI q ∧ q ≤ 3 ∧ ∀ p, p < q → S 15 p = nI (oc p) ∧ oc p ≤ 100 := by
  obtain ⟨q, e, hq⟩ := h.2.2.2.2.2.2.2.1
  have ho := h.2.2.2.2.2.2.2.2
  refine ⟨q, fun p => if hp : p < 3 then (ho p hp).choose else 0, e, hq, fun p hp => ?_⟩
  have hp3 : p < 3 := by omega
  dsimp only
  rw [dif_pos hp3]
  exact (ho p hp3).choose_spec
def SQ (z : Nat) (h0 : xH) (V : Option Value → Prop) (K : Nat → Prop) : xR → xH → Prop := fun r h' =>
  (∃ v C b tk c sz, V v ∧ r = .inl v ∧ h' = cset z C b tk h0 ∧ CV C tk b c sz) ∨ (∃ k C b tk c sz, K k ∧ r = .inr (k, xnx (cset z C b tk h0)) ∧ h' = thrw k (cset z C b tk h0) ∧ CV C tk b c sz)
def vI (v : Option Value) : Prop := ∃ i, v = some (.int i)
theorem SQ.ok {z : Nat} {h0 : xH} {V : Option Value → Prop} {K : Nat → Prop} {r : xR} {h' : xH} {v : Option Value} {C : Nat → Nat → Int32} {b : Bool} {tk : Nat → Option Nat} {c : Nat} {sz : Nat → Nat} (hV : V v) (e1 : r = .inl v) (e2 : h' = cset z C b tk h0) (h : CV C tk b c sz) : SQ z h0 V K r h' := Or.inl ⟨v, C, b, tk, c, sz, hV, e1, e2, h⟩
theorem SQ.no {z : Nat} {h0 : xH} {V : Option Value → Prop} {K : Nat → Prop} {r : xR} {h' : xH} {k : Nat} {C : Nat → Nat → Int32} {b : Bool} {tk : Nat → Option Nat} {c : Nat} {sz : Nat → Nat} (hK : K k) (e1 : r = .inr (k, xnx (cset z C b tk h0))) (e2 : h' = thrw k (cset z C b tk h0)) (h : CV C tk b c sz) : SQ z h0 V K r h' := Or.inr ⟨k, C, b, tk, c, sz, hK, e1, e2, h⟩
section XQ3
variable {l : Launch} {G : xG} {h0 : xH} {z : Nat} {C : Nat → Nat → Int32} {b : Bool} {tk : Nat → Option Nat} {c : Nat} {sz : Nat → Nat}
theorem s_chunk (hnt : l.stackTraces = false) (hs : CSh h0 z) (hv : CV C tk b c sz) (x : Int64) (n f : Int32) : xVM l G 8 124 m_A_chunk [.ref z, .long x, .int n, .int f] (cset z C b tk h0) (SQ z h0 vI (fun k => k = 0 ∨ k = 1)) := by
  obtain ⟨hc, hc6⟩ := hv.1.2.1
  by_cases ok : okf n f
  · by_cases hu : C 0 7 = 0 ∧ c < 6
    · have hN : n.toNatClampNeg ≤ 6 := by
        obtain ⟨N, rfl, h1, h2⟩ := rng_of (by decide) (by decide) ok.1
        rw [nI_clamp (by omega)]; exact h2
      exact xV.imp (c_A_chunk hs x ok hc hu.2 hu.1) (fun r h' q => SQ.ok ⟨_, rfl⟩ q.1 q.2 (hv.chunk hu.2 hu.1 x ok.2 hN))
    · exact xV.imp (c_A_chunkX1 hnt hs x ok hc hc6 (by
        by_cases u : C 0 7 = 0
        · right
          have : ¬ c < 6 := fun q => hu ⟨u, q⟩
          omega
        · exact Or.inl u)) (fun r h' q => SQ.no (Or.inr rfl) q.1 q.2 hv)
  · exact xV.imp (c_A_chunkX0 hnt x ok) (fun r h' q => SQ.no (Or.inl rfl) q.1 q.2 hv)
theorem s_speed (hnt : l.stackTraces = false) (hs : CSh h0 z) (hv : CV C tk b c sz) (n f : Int32) : xVM l G 8 124 m_A_speed [.ref z, .int n, .int f] (cset z C b tk h0) (SQ z h0 (fun v => v = none ∧ rng n 0 3 ∧ rng f 1 4) (fun k => k = 0 ∧ ¬ (rng n 0 3 ∧ rng f 1 4))) := by
  by_cases ok : rng n 0 3 ∧ rng f 1 4
  · obtain ⟨N, rfl, -, h2⟩ := rng_of (by decide) (by decide) ok.1
    exact xV.imp (c_A_speed hs (by omega) ok.2) (fun r h' q => SQ.ok ⟨rfl, ok⟩ q.1 q.2 (hv.speed (by omega) _))
  · exact xV.imp (c_A_speedX hnt ok) (fun r h' q => SQ.no ⟨rfl, ok⟩ q.1 q.2 hv)
theorem s_worker (hnt : l.stackTraces = false) (hs : CSh h0 z) (hv : CV C tk b c sz) (n : Int32) {up : Int32} (hup : up = nI 0 ∨ up = nI 1) : xVM l G 8 124 m_A_worker [.ref z, .int n, .int up] (cset z C b tk h0) (SQ z h0 (fun v => v = none ∧ rng n 0 3) (fun k => k = 0 ∧ ¬ rng n 0 3)) := by
  obtain ⟨hc, hc6⟩ := hv.1.2.1
  by_cases ok : rng n 0 3
  · obtain ⟨N, rfl, -, h2⟩ := rng_of (by decide) (by decide) ok
    exact xV.imp (c_A_worker hs hv.1.1 hv.2.1 (by omega) up hc hc6 hup) (fun r h' q => SQ.ok ⟨rfl, ok⟩ q.1 q.2 (hv.worker (by omega) up))
  · exact xV.imp (c_A_workerX hnt ok) (fun r h' q => SQ.no ⟨rfl, ok⟩ q.1 q.2 hv)
theorem s_filter (hs : CSh h0 z) (hv : CV C tk b c sz) (v : Int32) : xVM l G 0 0 m_A_filter [.ref z, .int v] (cset z C b tk h0) (SQ z h0 (fun v => v = none) (fun _ => False)) :=
  xV.imp (c_A_filter hs v) (fun r h' q => SQ.ok rfl q.1 q.2 (hv.xu0 (by decide) (by decide) v))
theorem s_begin (hnt : l.stackTraces = false) (hs : CSh h0 z) (hv : CV C tk b c sz) (m r p B : Int32) : xVM l G 8 124 m_A_begin [.ref z, .int m, .int r, .int p, .int B] (cset z C b tk h0) (SQ z h0 vI (fun k => k = 0 ∨ k = 1)) := by
  obtain ⟨hc, hc6⟩ := hv.1.2.1
  by_cases ok : okb m r p B
  · by_cases hu : C 0 7 = 0 ∧ 1 ≤ c
    · have hP : p.toNatClampNeg ≤ 3 := by
        obtain ⟨N, rfl, h1, h2⟩ := rng_of (by decide) (by decide) ok.2.2.1
        rw [nI_clamp (by omega)]; exact h2
      refine xV.imp (c_A_begin hs ok hc hu.2 hc6 hu.1 hv.1.2.2.1 hv.1.2.2.2.1) (fun q h' w => ?_)
      obtain ⟨E', hE, q1, q2⟩ := w
      exact SQ.ok ⟨_, rfl⟩ q1 q2 (hv.begin hP hE)
    · exact xV.imp (c_A_beginX1 hnt hs ok hc (by
        by_cases u : C 0 7 = 0
        · right
          have : ¬ 1 ≤ c := fun q => hu ⟨u, q⟩
          omega
        · exact Or.inl u)) (fun r h' q => SQ.no (Or.inr rfl) q.1 q.2 hv)
  · exact xV.imp (c_A_beginX0 hnt ok) (fun r h' q => SQ.no (Or.inl rfl) q.1 q.2 hv)
theorem s_run (hnt : l.stackTraces = false) (hs : CSh h0 z) (hv : CV C tk b c sz) (n : Int32) : xVM l G 8 124 m_A_run [.ref z, .int n] (cset z C b tk h0) (SQ z h0 vI (fun k => k = 0 ∨ k = 1 ∨ k = 3)) := by
  by_cases ok : rng n 1 100
  · by_cases u : C 0 7 = 0
    · exact xV.imp (c_A_runX1 hnt hs ok u) (fun r h' q => SQ.no (Or.inr (Or.inl rfl)) q.1 q.2 hv)
    · obtain ⟨Q, r, hI⟩ := hv.2.2 u
      obtain ⟨N, rfl, -, h2⟩ := rng_of (by decide) (by decide) ok
      have hR := CV.rn (sz := sz) N 0 C tk hv.1 hI
      refine xV.imp (c_A_run hnt hs hI ok h2 u) (fun q h' w => ?_)
      generalize rnC b Q c r N 0 C tk = o at *
      obtain ⟨⟨⟨⟨C', tk'⟩, b'⟩, d⟩, k⟩ := o
      match k, w with
      | 0, w => exact SQ.ok ⟨_, rfl⟩ w.1 w.2 hR
      | 1, w => exact SQ.no (Or.inr (Or.inl rfl)) w.1 w.2 hR
      | k + 2, w => exact SQ.no (Or.inr (Or.inr rfl)) w.1 w.2 hR
  · exact xV.imp (c_A_runX0 hnt ok) (fun r h' q => SQ.no (Or.inl rfl) q.1 q.2 hv)
theorem s_stop (hnt : l.stackTraces = false) (hs : CSh h0 z) (hv : CV C tk b c sz) : xVM l G 8 122 m_A_stop [.ref z] (cset z C b tk h0) (SQ z h0 (fun v => v = none) (fun k => k = 1)) := by
  by_cases u : C 0 7 = 0
  · exact xV.imp (c_A_stopX hnt hs u) (fun r h' q => SQ.no rfl q.1 q.2 hv)
  · exact xV.imp (c_A_stop hs u) (fun r h' q => SQ.ok rfl q.1 q.2 hv.stop)
theorem s_output (hnt : l.stackTraces = false) (hs : CSh h0 z) (hv : CV C tk b c sz) (p i w : Int32) : xVM l G 8 124 m_A_output [.ref z, .int p, .int i, .int w] (cset z C b tk h0) (SQ z h0 vI (fun k => k = 0 ∨ k = 2)) := by
  by_cases ok : oko p w
  · obtain ⟨N, rfl, -, h2⟩ := rng_of (by decide) (by decide) ok.1
    obtain ⟨q, hq, hq3⟩ := hv.1.2.2.2.2.1 (!b)
    obtain ⟨n, hn, hn3⟩ := hv.1.2.2.2.2.2 (!b) N (by omega)
    by_cases g : N < q ∧ (i = -1 ∨ ∃ k, i = nI k ∧ k < n)
    · exact xV.imp (c_A_output hs ok hq hq3 g.1 hn hn3 g.2) (fun r h' q => SQ.ok ⟨_, rfl⟩ q.1 q.2 hv)
    · exact xV.imp (c_A_outputX2 hnt hs ok (by omega) hq hq3 hn hn3 (by
        by_cases g1 : N < q
        · right
          exact ⟨fun e => g ⟨g1, Or.inl e⟩, fun e => g ⟨g1, Or.inr e⟩⟩
        · left; omega)) (fun r h' q => SQ.no (Or.inr rfl) q.1 q.2 hv)
  · exact xV.imp (c_A_outputX0 hnt ok) (fun r h' q => SQ.no (Or.inl rfl) q.1 q.2 hv)
theorem s_find (hnt : l.stackTraces = false) (hs : CSh h0 z) (hv : CV C tk b c sz) (k : Int32) : xVM l G 7 102 m_A_find [.ref z, .int k] (cset z C b tk h0) (SQ z h0 vI (fun k => k = 2)) := by
  obtain ⟨q, hq, hq3⟩ := hv.1.2.2.2.2.1 (!b)
  have p3 : pt (max q 1) k < 3 := by have := pt_lt (show 0 < max q 1 by omega) k; omega
  obtain ⟨n, hn, hn3⟩ := hv.1.2.2.2.2.2 (!b) _ p3
  cases e : idxOf (C (jo (!b) + 6 + 6 * pt (max q 1) k + 1)) k n with
  | none => exact xV.imp (c_A_findX hnt hs k hq hq3 hn hn3 e) (fun r h' q => SQ.no rfl q.1 q.2 hv)
  | some i => exact xV.imp (c_A_find hs k hq hq3 hn hn3 e) (fun r h' q => SQ.ok ⟨_, rfl⟩ q.1 q.2 hv)
theorem s_task (hnt : l.stackTraces = false) (hs : CSh h0 z) (hv : CV C tk b c sz) (mp t w : Int32) : xVM l G 8 124 m_A_task [.ref z, .int mp, .int t, .int w] (cset z C b tk h0) (SQ z h0 vI (fun k => k = 0 ∨ k = 2 ∨ k = 1)) := by
  obtain ⟨hc, hc6⟩ := hv.1.2.1
  by_cases ok : okt mp t w
  · obtain ⟨T, rfl, -, h2⟩ := rng_of (by decide) (by split <;> decide) ok.1
    have t6 : T < 6 := by split at h2 <;> omega
    by_cases u : C 0 7 = 0
    · exact xV.imp (c_A_taskX1 hnt hs ok u) (fun r h' q => SQ.no (Or.inr (Or.inr rfl)) q.1 q.2 hv)
    · obtain ⟨q, hq, hq3⟩ := hv.1.2.2.2.2.1 b
      by_cases g : T < (if mp = 0 then q else c)
      · exact xV.imp (c_A_task hs hv.2.1 ok u hc hc6 hq hq3 g) (fun r h' q => SQ.ok ⟨_, rfl⟩ q.1 q.2 hv)
      · exact xV.imp (c_A_taskX2 hnt hs ok t6 u hc hc6 hq hq3 (by omega)) (fun r h' q => SQ.no (Or.inr (Or.inl rfl)) q.1 q.2 hv)
  · exact xV.imp (c_A_taskX0 hnt ok) (fun r h' q => SQ.no (Or.inl rfl) q.1 q.2 hv)
theorem s_ofWorker (hnt : l.stackTraces = false) (hs : CSh h0 z) (hv : CV C tk b c sz) (n f : Int32) : xVM l G 8 124 m_A_ofWorker [.ref z, .int n, .int f] (cset z C b tk h0) (SQ z h0 vI (fun k => k = 0)) := by
  by_cases ok : rng n 0 3 ∧ rng f 0 3
  · obtain ⟨N, rfl, -, h2⟩ := rng_of (by decide) (by decide) ok.1
    exact xV.imp (c_A_ofWorker hs hv.1.1 hv.2.1 (by omega) ok.2) (fun r h' q => SQ.ok ⟨_, rfl⟩ q.1 q.2 hv)
  · exact xV.imp (c_A_ofWorkerX hnt ok) (fun r h' q => SQ.no rfl q.1 q.2 hv)
theorem s_count (hs : CSh h0 z) (hv : CV C tk b c sz) (w : Int32) : xVM l G 4 91 m_A_count [.ref z, .int w] (cset z C b tk h0) (SQ z h0 vI (fun _ => False)) := by
  obtain ⟨hc, hc6⟩ := hv.1.2.1
  refine xV.imp (c_A_count hs w hc hc6 hv.1.2.2.1 hv.1.2.2.2.1) (fun q h' q9 => ?_)
  obtain ⟨E', hE, q1, q2⟩ := q9
  exact SQ.ok ⟨_, rfl⟩ q1 q2 (hv.ag hE)
end XQ3
/-! the law's state -/
def LW (z n : Nat) (H : xH) : Prop := ∃ C b tk c sz S c' sz' h0, H = cset z C b tk (mset (z + 75) S h0) ∧ LB z h0 n ∧ CV C tk b c sz ∧ MI S c' sz'
def L1 (z n : Nat) (S : Nat → Nat → Int32) (H : xH) : Prop := ∃ C b tk c sz h0, H = cset z C b tk (mset (z + 75) S h0) ∧ LB z h0 n ∧ CV C tk b c sz
theorem SQ_L1 {z n : Nat} {S : Nat → Nat → Int32} {h0 : xH} {V : Option Value → Prop} {K : Nat → Prop} {r : xR} {h' : xH} (hB : LB z h0 n) (q : SQ z (mset (z + 75) S h0) V K r h') : L1 z (n + 1) S h' := by
  rcases q with ⟨v, C, b, tk, c, sz, -, -, e, hv⟩ | ⟨k, C, b, tk, c, sz, -, -, e, hv⟩
  · exact ⟨C, b, tk, c, sz, h0, e, hB.next, hv⟩
  · refine ⟨C, b, tk, c, sz, thrw k h0, ?_, hB.thrw k, hv⟩
    have hx := hB.2.2.2.2.1
    have hx' : z + 92 ≤ h0.1.1 := hx
    rw [e, thrw_cset (h0 := mset (z + 75) S h0) (show z + 75 ≤ h0.1.1 by omega), thrw_mset (show z + 75 + 16 ≤ h0.1.1 by omega)]
theorem L1.long {z n a : Nat} {S : Nat → Nat → Int32} {H : xH} {x : Int64} (h : L1 z n S H) : L1 z n S (xwJ H a 0 x) := by
  obtain ⟨C, b, tk, c, sz, h0, rfl, hB, hv⟩ := h
  exact ⟨C, b, tk, c, sz, xwJ h0 a 0 x, rfl, hB.long, hv⟩
theorem wP_L1 {z n a : Nat} {S : Nat → Nat → Int32} {h0 : xH} {V : Option Value → Prop} {K : Nat → Prop} {cd : Nat → Nat} {r : xR} {h' : xH} (hB : LB z h0 n) (q : wP (SQ z (mset (z + 75) S h0) V K) a cd r h') : (∃ i, r = .inl (some (.int (nI i)))) ∧ L1 z (n + 1) S h' := by
  rcases q with ⟨i, h1, q, e, rfl⟩ | ⟨k, p, q, e⟩
  · exact ⟨⟨0, e⟩, (SQ_L1 hB q).long⟩
  · exact ⟨⟨_, e⟩, SQ_L1 hB q⟩
theorem wV_L1 {z n : Nat} {S : Nat → Nat → Int32} {h0 : xH} {V : Option Value → Prop} {K : Nat → Prop} {cd : Nat → Nat} {r : xR} {h' : xH} (hB : LB z h0 n) (q : wV (SQ z (mset (z + 75) S h0) V K) cd r h') : (∃ i, r = .inl (some (.int (nI i)))) ∧ L1 z (n + 1) S h' := by
  rcases q with ⟨q, e⟩ | ⟨k, p, q, e⟩
  · exact ⟨⟨0, e⟩, SQ_L1 hB q⟩
  · exact ⟨⟨_, e⟩, SQ_L1 hB q⟩
theorem wP_no {QA : xR → xH → Prop} {a k e : Nat} {cd : Nat → Nat} {h' : xH} (q : wP QA a cd (.inr (k, e)) h') : False := by
  rcases q with ⟨i, h1, -, q, -⟩ | ⟨k, p, -, q⟩ <;> cases q
theorem wV_no {QA : xR → xH → Prop} {k e : Nat} {cd : Nat → Nat} {h' : xH} (q : wV QA cd (.inr (k, e)) h') : False := by
  rcases q with ⟨-, q⟩ | ⟨k, p, -, q⟩ <;> cases q
theorem SQ_I {z n : Nat} {S : Nat → Nat → Int32} {h0 : xH} {K : Nat → Prop} {v : Option Value} {h1 : xH} (hB : LB z h0 n) (q : SQ z (mset (z + 75) S h0) vI K (.inl v) h1) : ∃ i, v = some (.int i) ∧ xT h1 (z + 91) = 102 ∧ xN h1 (z + 91) = 1 := by
  rcases q with ⟨v', C, b, tk, c, sz, ⟨i, hi⟩, e, rfl, hv⟩ | ⟨k, C, b, tk, c, sz, -, e, -, hv⟩
  · cases e
    exact ⟨i, hi, hB.2.2.1, hB.2.2.2.1⟩
  · cases e
theorem SQ_V {z : Nat} {h0 : xH} {V : Option Value → Prop} {K : Nat → Prop} {v : Option Value} {h1 : xH} (q : SQ z h0 V K (.inl v) h1) : V v := by
  rcases q with ⟨v', C, b, tk, c, sz, hV, e, -, hv⟩ | ⟨k, C, b, tk, c, sz, -, e, -, hv⟩
  · cases e; exact hV
  · cases e
theorem SQ_K {z : Nat} {h0 : xH} {V : Option Value → Prop} {K : Nat → Prop} {k p : Nat} {h1 : xH} (q : SQ z h0 V K (.inr (k, p)) h1) : K k := by
  rcases q with ⟨v', C, b, tk, c, sz, hV, e, -, hv⟩ | ⟨k, C, b, tk, c, sz, hK, e, -, hv⟩
  · cases e
  · cases e; exact hK

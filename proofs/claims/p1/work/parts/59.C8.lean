/-- the tasks of t, t + 1 .. are made anew: units u, runs v -/
def rnw (E : Nat → Nat → Int32) (g : Nat → Nat) (u v : Nat → Int32) : Nat → (Nat → Nat → Int32)
  | 0 => E
  | t + 1 => xu (xu (xu (rnw E g u v t) (taddr (g t)) 2 (u t + v t)) (taddr (g t)) 3 (v t)) (taddr (g t)) 4 (-1)
theorem rnw_keep {E : Nat → Nat → Int32} {g : Nat → Nat} {u v : Nat → Int32} {k j : Nat} : ∀ t, (∀ s, s < t → ¬ (k = taddr (g s) ∧ (j = 2 ∨ j = 3 ∨ j = 4))) → rnw E g u v t k j = E k j
  | 0, _ => rfl
  | t + 1, h => by
    have h1 := h t (by omega)
    rw [rnw, show xu (xu (xu (rnw E g u v t) (taddr (g t)) 2 (u t + v t)) (taddr (g t)) 3 (v t)) (taddr (g t)) 4 (-1) k j = xu (xu (rnw E g u v t) (taddr (g t)) 2 (u t + v t)) (taddr (g t)) 3 (v t) k j from if_neg (by omega),
      show xu (xu (rnw E g u v t) (taddr (g t)) 2 (u t + v t)) (taddr (g t)) 3 (v t) k j = xu (rnw E g u v t) (taddr (g t)) 2 (u t + v t) k j from if_neg (by omega), show xu (rnw E g u v t) (taddr (g t)) 2 (u t + v t) k j = rnw E g u v t k j from if_neg (by omega)]
    exact rnw_keep t (fun s hs => h s (by omega))
def rnsC (m : Int32) (C : Nat → Nat → Int32) (sz : Nat → Nat) (B : Nat) (t : Nat) : Int32 := (nI (ccL m (C (55 + 3 * t)) (sz t)).length + nI B - nI 1) / nI B
def bgE0 (C : Nat → Nat → Int32) (b : Bool) (m r p : Int32) : Nat → Nat → Int32 := xu (xu (ppC C b r p (C 0 10)) 0 9 m) 0 7 (nI 1)
def bgQ (C : Nat → Nat → Int32) (sz : Nat → Nat) (m : Int32) (P c : Nat) : Nat → List KV := tkQ P (fun _ => []) (caL m C sz c)
def bgE1 (C : Nat → Nat → Int32) (b : Bool) (sz : Nat → Nat) (m r : Int32) (P B c : Nat) : Nat → Nat → Int32 := rnw (bgE0 C b m r (nI P)) (fun t => t) (fun t => nI 2 * nI (sz t)) (rnsC m C sz B) c
def bgE (C : Nat → Nat → Int32) (b : Bool) (sz : Nat → Nat) (m r : Int32) (P B c : Nat) : Nat → Nat → Int32 := rnw (bgE1 C b sz m r P B c) (fun p => 8 + p) (fun p => nI 1 + nI (bgQ C sz m P c p).length) (fun _ => nI 0) P
section XC8
variable {l : Launch} {G : xG} {h0 : xH} {z : Nat} {C : Nat → Nat → Int32} {b : Bool} {tk : Nat → Option Nat}
theorem c_renew (hs : CSh h0 z) {t : Nat} (ht : tok t) (u r : Int32) : xVM l G 0 0 m_T_renew [.ref (z + taddr t), .int u, .int r] (cset z C b tk h0) (fun q h' => q = .inl none ∧ h' = cset z (xu (xu (xu C (taddr t) 2 (u + r)) (taddr t) 3 r) (taddr t) 4 (-1)) b tk h0) :=
  xV.imp (c_T_renew (h := cset z C b tk h0) u r (hs.T ht)) (fun q h' w => ⟨w.1, w.2.trans (by rw [cset_w (taddr_lt ht).1, cset_w (taddr_lt ht).1, cset_w (taddr_lt ht).1])⟩)
theorem bgE0_k {m r p : Int32} {k j : Nat} (h1 : ¬ (k = 0 ∧ (j = 9 ∨ j = 7))) (h2 : ¬ (k = jo b ∧ (j = 2 ∨ j = 3 ∨ j = 4))) : bgE0 C b m r p k j = C k j := by
  unfold bgE0 ppC
  rw [show ∀ (f : Nat → Nat → Int32), xu f 0 7 (nI 1) k j = f k j from fun f => if_neg (by omega), show ∀ (f : Nat → Nat → Int32), xu f 0 9 m k j = f k j from fun f => if_neg (by omega), show ∀ (f : Nat → Nat → Int32), xu f (jo b) 4 (C 0 10) k j = f k j from fun f => if_neg (by omega), show ∀ (f : Nat → Nat → Int32), xu f (jo b) 3 p k j = f k j from fun f => if_neg (by omega), show ∀ (f : Nat → Nat → Int32), xu f (jo b) 2 r k j = f k j from fun f => if_neg (by omega)]
theorem c_A_begin (hs : CSh h0 z) {m r p B : Int32} {c : Nat} {sz : Nat → Nat} (hok : okb m r p B) (hc : C 0 8 = nI c) (hc1 : 1 ≤ c) (hc6 : c ≤ 6) (hu : C 0 7 = 0) (hn : ∀ t, t < c → C (54 + 3 * t) 1 = nI (sz t) ∧ sz t ≤ 6) (hv : ∀ t i, t < c → i < sz t → (C (55 + 3 * t) i).toInt.natAbs < 10 ^ 6) :
    xVM l G 8 124 m_A_begin [.ref z, .int m, .int r, .int p, .int B] (cset z C b tk h0) (fun q h' => ∃ E', AG E' (bgE C b sz m r p.toNatClampNeg B.toNatClampNeg c) ∧ q = .inl (some (.int (nI c))) ∧ h' = cset z (tqS E' b (bgQ C sz m p.toNatClampNeg c)) b tk h0) := by
  have hj := jo_lt b
  obtain ⟨g1, g2, g3, g4⟩ := hok
  obtain ⟨P, rfl, hP1, hP3⟩ := rng_of (by decide) (by decide) g3
  obtain ⟨BB, rfl, hB2, hB6⟩ := rng_of (by decide) (by decide) g4
  rw [nI_clamp (by omega), nI_clamp (by omega)]
  have hmx : max P 1 = P := by omega
  have ta : ∀ t, tok t → 56 ≤ taddr t ∧ taddr t < 75 := fun t ht => ⟨(taddr_lt ht).2, (taddr_lt ht).1⟩
  have sz6 : ∀ t, t < c → sz t ≤ 6 := fun t ht => (hn t ht).2
  -- the second loop
  have lp2 : ∀ (k i : Nat) (E : Nat → Nat → Int32), i + k = P → AG E (rnw (bgE1 C b sz m r P BB c) (fun p => 8 + p) (fun p => nI 1 + nI (bgQ C sz m P c p).length) (fun _ => nI 0) i) → xV l G 8 124 m_A_begin 125 [(5, .int (nI i)), (0, .ref z), (3, .int (nI P))] [] (cset z (tqS E b (bgQ C sz m P c)) b tk h0)
      (fun q h' => ∃ E', AG E' (bgE C b sz m r P BB c) ∧ q = .inl (some (.int (nI c))) ∧ h' = cset z (tqS E' b (bgQ C sz m P c)) b tk h0) := by
    intro k
    induction k with
    | zero =>
      intro i E hi hE
      obtain rfl : i = P := by omega
      have e8 : tqS E b (bgQ C sz m i c) 0 8 = nI c := by
        rw [tq_out (by omega), hE _ _ (by omega) (by omega) (by omega), rnw_keep _ (fun s hs9 => by have := ta (8 + s) (by omega); omega)]
        unfold bgE1
        rw [rnw_keep _ (fun s hs9 => by have := ta s (by omega); omega), bgE0_k (by omega) (by omega), hc]
      refine x_iload d_A_begin_125 rfl ?_
      refine x_iload_n d_A_begin_127 rfl ?_
      refine x_icmp_ge_t (tgt := 163) d_A_begin_128 (by decide) ((nI_le (by omega) (by omega))) ?_
      first | refine x_aload_n d_A_begin_163 rfl ?_ | refine x_aloadq_n d_A_begin_163 rfl ?_
      refine xc_getA (j := 8) d_A_begin_164 hs rfl (by decide) wf_A_53 (fun _ _ => rfl) ?_
      rw [e8]
      refine x_iret d_A_begin_167 rfl (by first | rfl | assumption) ?_
      exact ⟨E, hE, rfl, rfl⟩
    | succ k ih =>
      intro i E hi hE
      have ti := ta (8 + i) (by omega)
      have ip : isP (jo b + 3 + 6 * i) 216 := isPt (by omega)
      have nx := ih (i + 1) (xu (xu (xu E (taddr (8 + i)) 2 (nI 1 + nI (bgQ C sz m P c i).length + nI 0)) (taddr (8 + i)) 3 (nI 0)) (taddr (8 + i)) 4 (-1)) (by omega) (((hE.xu _ _ _).xu _ _ _).xu _ _ _)
      refine x_iload d_A_begin_125 rfl ?_
      refine x_iload_n d_A_begin_127 rfl ?_
      refine x_icmp_ge_f 163 d_A_begin_128 (by decide) ((nI_ge (by omega) (by omega))) ?_
      first | refine x_aload_n d_A_begin_131 rfl ?_ | refine x_aloadq_n d_A_begin_131 rfl ?_
      refine xc_refA (j := 3) d_A_begin_132 hs rfl (by decide) wf_A_27 (fun _ _ => rfl) hs.r3 ?_
      refine x_iload d_A_begin_135 rfl ?_
      first | refine xc_aaW d_A_begin_137 hs (by first | assumption | omega) ?_ | refine xc_aaC d_A_begin_137 hs (by first | assumption | omega) ?_ | refine xc_aaM d_A_begin_137 hs (by first | assumption | omega) ?_ | refine xc_aaR d_A_begin_137 hs (by first | assumption | omega) ?_ | refine xc_aaT d_A_begin_137 hs (by first | assumption | omega) ?_ | refine xc_aaO d_A_begin_137 hs (by first | assumption | omega) ?_
      refine x_iconst (v := nI 1) d_A_begin_138 (by decide) ?_
      first | refine x_aload_n d_A_begin_139 rfl ?_ | refine x_aloadq_n d_A_begin_139 rfl ?_
      refine xc_refA (j := 5) d_A_begin_140 hs rfl (by decide) wf_A_42 (fun _ _ => rfl) cset_job ?_
      refine xc_ref (kc := 2) (j := 0) d_A_begin_143 (hs.J _) ⟨jo1 _, by decide⟩ rfl (by decide) wf_A_122 (fun _ _ => rfl) (hs.J2 _).1 ?_
      refine x_iload d_A_begin_146 rfl ?_
      first | refine xc_aaW d_A_begin_148 hs (by first | assumption | omega) ?_ | refine xc_aaC d_A_begin_148 hs (by first | assumption | omega) ?_ | refine xc_aaM d_A_begin_148 hs (by first | assumption | omega) ?_ | refine xc_aaR d_A_begin_148 hs (by first | assumption | omega) ?_ | refine xc_aaT d_A_begin_148 hs (by first | assumption | omega) ?_ | refine xc_aaO d_A_begin_148 hs (by first | assumption | omega) ?_
      refine xc_get (kc := 3) (j := 2) d_A_begin_149 (hs.P (by assumption)) (P75 (by assumption)) rfl (by decide) wf_A_126 (fun _ _ => rfl) ?_
      have en := tq_at (C := E) (b := b) (Q := bgQ C sz m P c) (j := 2) (p := i) (by omega) (show 0 < 3 by decide)
      rw [Nat.add_zero, pq_n] at en
      rw [en]
      refine x_iadd d_A_begin_152 ?_
      refine x_iconst (v := nI 0) d_A_begin_153 (by decide) ?_
      refine x_callV (M' := m_T_renew) (As := [_, _]) (fr' := 0) (wd' := 0) d_A_begin_154 (hs.T (by first | assumption | omega)) rfl pl_T_renew rfl (Nat.le_of_ble_eq_true rfl) (by decide) (by decide) wc_T_renew wi_T wl_A_118 wm_T_renew we_T_renew (by decide) np_T_renew (Nat.le_of_ble_eq_true rfl) (fun q hq => by cases hq) (c_renew hs (by omega) _ _) (fun k a h1 q => by cases q.1) (fun v h1 q => ?_)
      obtain ⟨q1, rfl⟩ := q
      cases q1
      first | refine x_incN d_A_begin_157 rfl (by decide) ?_ | refine x_inc d_A_begin_157 rfl (by decide) ?_
      refine x_goto (tgt := 125) d_A_begin_160 (by decide) ?_
      rw [tq_xu (by omega), tq_xu (by omega), tq_xu (by omega)]
      refine xV.loc (nx) (by repeat (first | exact trivial | refine ⟨rfl, ?_⟩))
  -- the first loop
  have lp1 : ∀ (k t : Nat) (E : Nat → Nat → Int32), t + k = c → AG E (bgE1 C b sz m r P BB t) → xV l G 8 124 m_A_begin 74 [(5, .int (nI t)), (0, .ref z), (1, .int m), (2, .int r), (3, .int (nI P)), (4, .int (nI BB))] [] (cset z (tqS E b (bgQ C sz m P t)) b tk h0)
      (fun q h' => ∃ E', AG E' (bgE C b sz m r P BB c) ∧ q = .inl (some (.int (nI c))) ∧ h' = cset z (tqS E' b (bgQ C sz m P c)) b tk h0) := by
    intro k
    induction k with
    | zero =>
      intro t E ht hE
      obtain rfl : t = c := by omega
      have this := lp2 P 0 E (by omega) hE
      refine x_iload d_A_begin_74 rfl ?_
      first | refine x_aload_n d_A_begin_76 rfl ?_ | refine x_aloadq_n d_A_begin_76 rfl ?_
      refine xc_getA (j := 8) d_A_begin_77 hs rfl (by decide) wf_A_53 (fun _ _ => rfl) ?_
      rw [tq_out (by omega), hE _ _ (by omega) (by omega) (by omega), show bgE1 C b sz m r P BB t 0 8 = nI t by unfold bgE1; rw [rnw_keep _ (fun s hs9 => by have := ta s (by omega); omega), bgE0_k (by omega) (by omega), hc]]
      refine x_icmp_ge_t (tgt := 122) d_A_begin_80 (by decide) ((nI_le (by omega) (by omega))) ?_
      refine x_iconst (v := nI 0) d_A_begin_122 (by decide) ?_
      refine x_istore d_A_begin_123 (by decide) ?_
      refine xV.loc (this) (by repeat (first | exact trivial | refine ⟨rfl, ?_⟩))
    | succ k ih =>
      intro t E ht hE
      obtain ⟨n1, n2⟩ := hn t (by omega)
      have tt := ta t (by omega)
      have kp : ∀ k' j', ¬ (k' = 0 ∧ (j' = 9 ∨ j' = 7)) → ¬ (k' = jo b ∧ (j' = 2 ∨ j' = 3 ∨ j' = 4)) → k' ≠ 5 → k' ≠ 6 → k' ≠ 7 → (∀ s, s < t → k' ≠ taddr s) → E k' j' = C k' j' := by
        intro k' j' a1 a2 a5 a6 a7 a8
        rw [hE _ _ a5 a6 a7]
        unfold bgE1
        rw [rnw_keep _ (fun s hs9 => by have := a8 s hs9; omega), bgE0_k a1 a2]
      have k9 : E 0 9 = m := by
        rw [hE _ _ (by omega) (by omega) (by omega)]
        unfold bgE1
        rw [rnw_keep _ (fun s hs9 => by have := ta s (by omega); omega)]
        unfold bgE0
        rw [show ∀ (f : Nat → Nat → Int32), xu f 0 7 (nI 1) 0 9 = f 0 9 from fun f => if_neg (by omega), xu_s]
      have k3 : E (jo b) 3 = nI P := by
        rw [hE _ _ (by omega) (by omega) (by omega)]
        unfold bgE1
        rw [rnw_keep _ (fun s hs9 => by have := ta s (by omega); omega)]
        unfold bgE0 ppC
        rw [show ∀ (f : Nat → Nat → Int32), xu f 0 7 (nI 1) (jo b) 3 = f (jo b) 3 from fun f => if_neg (by omega), show ∀ (f : Nat → Nat → Int32), xu f 0 9 m (jo b) 3 = f (jo b) 3 from fun f => if_neg (by omega), show ∀ (f : Nat → Nat → Int32), xu f (jo b) 4 (C 0 10) (jo b) 3 = f (jo b) 3 from fun f => if_neg (by omega), xu_s]
      have kz : ∀ j, E (54 + 3 * t) j = C (54 + 3 * t) j := fun j => kp _ _ (by omega) (by omega) (by omega) (by omega) (by omega) (fun s hs9 => by unfold taddr; rw [if_pos (by omega)]; omega)
      have kn : E (55 + 3 * t) = C (55 + 3 * t) := funext (fun j => kp _ _ (by omega) (by omega) (by omega) (by omega) (by omega) (fun s hs9 => by unfold taddr; rw [if_pos (by omega)]; omega))
      have cl := caL_len m C (sz := sz) t (fun s hs9 => sz6 s (by omega))
      refine x_iload d_A_begin_74 rfl ?_
      first | refine x_aload_n d_A_begin_76 rfl ?_ | refine x_aloadq_n d_A_begin_76 rfl ?_
      refine xc_getA (j := 8) d_A_begin_77 hs rfl (by decide) wf_A_53 (fun _ _ => rfl) ?_
      rw [tq_out (by omega), kp _ _ (by omega) (by omega) (by omega) (by omega) (by omega) (fun s hs9 => by have := ta s (by omega); omega), hc]
      refine x_icmp_ge_f 122 d_A_begin_80 (by decide) ((nI_ge (by omega) (by omega))) ?_
      first | refine x_aload_n d_A_begin_83 rfl ?_ | refine x_aloadq_n d_A_begin_83 rfl ?_
      refine xc_refA (j := 2) d_A_begin_84 hs rfl (by decide) wf_A_23 (fun _ _ => rfl) hs.r2 ?_
      refine x_iload d_A_begin_87 rfl ?_
      first | refine xc_aaW d_A_begin_89 hs (by first | assumption | omega) ?_ | refine xc_aaC d_A_begin_89 hs (by first | assumption | omega) ?_ | refine xc_aaM d_A_begin_89 hs (by first | assumption | omega) ?_ | refine xc_aaR d_A_begin_89 hs (by first | assumption | omega) ?_ | refine xc_aaT d_A_begin_89 hs (by first | assumption | omega) ?_ | refine xc_aaO d_A_begin_89 hs (by first | assumption | omega) ?_
      refine x_iconst (v := nI 2) d_A_begin_90 (by decide) ?_
      first | refine x_aload_n d_A_begin_91 rfl ?_ | refine x_aloadq_n d_A_begin_91 rfl ?_
      refine xc_refA (j := 1) d_A_begin_92 hs rfl (by decide) wf_A_17 (fun _ _ => rfl) hs.r1 ?_
      refine x_iload d_A_begin_95 rfl ?_
      first | refine xc_aaW d_A_begin_97 hs (by first | assumption | omega) ?_ | refine xc_aaC d_A_begin_97 hs (by first | assumption | omega) ?_ | refine xc_aaM d_A_begin_97 hs (by first | assumption | omega) ?_ | refine xc_aaR d_A_begin_97 hs (by first | assumption | omega) ?_ | refine xc_aaT d_A_begin_97 hs (by first | assumption | omega) ?_ | refine xc_aaO d_A_begin_97 hs (by first | assumption | omega) ?_
      refine xc_get (kc := 1) (j := 1) d_A_begin_98 (hs.Ch (by first | assumption | omega)) (by omega) rfl (by decide) wf_A_107 (fun _ _ => rfl) ?_
      rw [tq_out (by omega), kz, n1]
      refine x_imul d_A_begin_101 ?_
      first | refine x_aload_n d_A_begin_102 rfl ?_ | refine x_aloadq_n d_A_begin_102 rfl ?_
      refine x_iload d_A_begin_103 rfl ?_
      refine x_callV (M' := m_A_mapChunk) (As := [_]) (fr' := 3) (wd' := 68) d_A_begin_105 hs.A rfl pl_A_mapChunk rfl (Nat.le_of_ble_eq_true rfl) (by decide) (by decide) wc_A_mapChunk wi_A wl_A_110 wm_A_mapChunk we_A_mapChunk (by decide) np_A_mapChunk (Nat.le_of_ble_eq_true rfl) (fun q hq => by cases hq) (c_A_mapChunk hs (r := P) (n := sz t) (m := m) (by omega) (by rw [kz]; exact n1) n2 k9 k3 hP3 (fun i hi => by rw [kn]; exact hv t i (by omega) hi) (fun i hi => by have h9 := tkQ_len P (caL m C sz t) (fun _ => []) i; show (tkQ P (fun _ => []) (caL m C sz t) i).length + _ ≤ _; rw [List.length_nil] at h9; omega)) (fun k a h1 q => by obtain ⟨_, _, q, _⟩ := q; cases q) (fun v h1 q => ?_)
      obtain ⟨E2, hE2, q1, rfl⟩ := q
      cases q1
      rw [hmx, kn]
      refine x_iload d_A_begin_108 rfl ?_
      refine x_callS (M' := m_A_runsOf) (As := [_, _]) (fr' := 1) (wd' := 21) d_A_begin_110 pl_A_runsOf rfl (Nat.le_of_ble_eq_true rfl) (by decide) (by decide) wc_A_runsOf wi_A wl_A_114 ws_A_runsOf (by decide) np_A_runsOf (Nat.le_of_ble_eq_true rfl) (fun q hq => by cases hq) (c_A_runsOf _ (by omega) hB6) (fun k a h1 q => by cases q.1) (fun v h1 q => ?_)
      obtain ⟨q1, rfl⟩ := q
      cases q1
      refine x_callV (M' := m_T_renew) (As := [_, _]) (fr' := 0) (wd' := 0) d_A_begin_113 (hs.T (by first | assumption | omega)) rfl pl_T_renew rfl (Nat.le_of_ble_eq_true rfl) (by decide) (by decide) wc_T_renew wi_T wl_A_118 wm_T_renew we_T_renew (by decide) np_T_renew (Nat.le_of_ble_eq_true rfl) (fun q hq => by cases hq) (c_renew hs (by omega) _ _) (fun k a h1 q => by cases q.1) (fun v h1 q => ?_)
      obtain ⟨q1, rfl⟩ := q
      cases q1
      first | refine x_incN d_A_begin_116 rfl (by decide) ?_ | refine x_inc d_A_begin_116 rfl (by decide) ?_
      refine x_goto (tgt := 74) d_A_begin_119 (by decide) ?_
      rw [tq_xu (by omega), tq_xu (by omega), tq_xu (by omega)]
      have e2 : AG E2 (bgE1 C b sz m r P BB t) := fun k' j' a5 a6 a7 => (hE2 k' j' a5 a6 a7).trans (hE k' j' a5 a6 a7)
      have nx := ih (t + 1) (xu (xu (xu E2 (taddr t) 2 (nI 2 * nI (sz t) + rnsC m C sz BB t)) (taddr t) 3 (rnsC m C sz BB t)) (taddr t) 4 (-1)) (by omega) (((e2.xu _ _ _).xu _ _ _).xu _ _ _)
      rw [show bgQ C sz m P (t + 1) = tkQ P (bgQ C sz m P t) (ccL m (C (55 + 3 * t)) (sz t)) from tkQ_app _ _ _ _] at nx
      refine xV.loc (nx) (by repeat (first | exact trivial | refine ⟨rfl, ?_⟩))
  have this := lp1 c 0 (bgE0 C b m r (nI P)) (by omega) (AG.refl _)
  unfold xVM
  refine x_iload_n d_A_begin_0 rfl ?_
  refine x_iconst (v := nI 0) d_A_begin_1 (by decide) ?_
  refine x_iconst (v := nI 4) d_A_begin_2 (by decide) ?_
  refine x_callS (M' := m_A_demandRange) (As := [_, _, _]) (fr' := 7) (wd' := 102) d_A_begin_3 pl_A_demandRange rfl (Nat.le_of_ble_eq_true rfl) (by decide) (by decide) wc_A_demandRange wi_A wl_A_81 ws_A_demandRange (by decide) np_A_demandRange (Nat.le_of_ble_eq_true rfl) (fun q hq => by cases hq) (c_A_range g1) (fun k a h1 q => by cases q.1) (fun v h1 q => ?_)
  obtain ⟨q1, rfl⟩ := q
  cases q1
  refine x_iload_n d_A_begin_6 rfl ?_
  refine x_iconst (v := nI 0) d_A_begin_7 (by decide) ?_
  refine x_iconst (v := nI 4) d_A_begin_8 (by decide) ?_
  refine x_callS (M' := m_A_demandRange) (As := [_, _, _]) (fr' := 7) (wd' := 102) d_A_begin_9 pl_A_demandRange rfl (Nat.le_of_ble_eq_true rfl) (by decide) (by decide) wc_A_demandRange wi_A wl_A_81 ws_A_demandRange (by decide) np_A_demandRange (Nat.le_of_ble_eq_true rfl) (fun q hq => by cases hq) (c_A_range g2) (fun k a h1 q => by cases q.1) (fun v h1 q => ?_)
  obtain ⟨q1, rfl⟩ := q
  cases q1
  refine x_iload_n d_A_begin_12 rfl ?_
  refine x_iconst (v := nI 1) d_A_begin_13 (by decide) ?_
  refine x_iconst (v := nI 3) d_A_begin_14 (by decide) ?_
  refine x_callS (M' := m_A_demandRange) (As := [_, _, _]) (fr' := 7) (wd' := 102) d_A_begin_15 pl_A_demandRange rfl (Nat.le_of_ble_eq_true rfl) (by decide) (by decide) wc_A_demandRange wi_A wl_A_81 ws_A_demandRange (by decide) np_A_demandRange (Nat.le_of_ble_eq_true rfl) (fun q hq => by cases hq) (c_A_range g3) (fun k a h1 q => by cases q.1) (fun v h1 q => ?_)
  obtain ⟨q1, rfl⟩ := q
  cases q1
  refine x_iload d_A_begin_18 rfl ?_
  refine x_iconst (v := nI 2) d_A_begin_20 (by decide) ?_
  refine x_bipush (v := nI 6) d_A_begin_21 (by decide) ?_
  refine x_callS (M' := m_A_demandRange) (As := [_, _, _]) (fr' := 7) (wd' := 102) d_A_begin_23 pl_A_demandRange rfl (Nat.le_of_ble_eq_true rfl) (by decide) (by decide) wc_A_demandRange wi_A wl_A_81 ws_A_demandRange (by decide) np_A_demandRange (Nat.le_of_ble_eq_true rfl) (fun q hq => by cases hq) (c_A_range g4) (fun k a h1 q => by cases q.1) (fun v h1 q => ?_)
  obtain ⟨q1, rfl⟩ := q
  cases q1
  first | refine x_aload_n d_A_begin_26 rfl ?_ | refine x_aloadq_n d_A_begin_26 rfl ?_
  refine xc_getA (j := 7) d_A_begin_27 hs rfl (by decide) wf_A_49 (fun _ _ => rfl) ?_
  refine x_if_ne_f 40 d_A_begin_30 (by decide) (hu) ?_
  first | refine x_aload_n d_A_begin_33 rfl ?_ | refine x_aloadq_n d_A_begin_33 rfl ?_
  refine xc_getA (j := 8) d_A_begin_34 hs rfl (by decide) wf_A_53 (fun _ _ => rfl) ?_
  rw [hc]
  refine x_if_ne_t (tgt := 48) d_A_begin_37 (by decide) ((nI_ne0 (by omega) (by omega))) ?_
  first | refine x_aload_n d_A_begin_48 rfl ?_ | refine x_aloadq_n d_A_begin_48 rfl ?_
  refine xc_refA (j := 5) d_A_begin_49 hs rfl (by decide) wf_A_42 (fun _ _ => rfl) cset_job ?_
  refine x_iload_n d_A_begin_52 rfl ?_
  refine x_iload_n d_A_begin_53 rfl ?_
  first | refine x_aload_n d_A_begin_54 rfl ?_ | refine x_aloadq_n d_A_begin_54 rfl ?_
  refine xc_getA (j := 10) d_A_begin_55 hs rfl (by decide) wf_A_61 (fun _ _ => rfl) ?_
  refine x_callV (M' := m_J_prepare) (As := [_, _, _]) (fr' := 0) (wd' := 0) d_A_begin_58 (hs.J _) rfl pl_J_prepare rfl (Nat.le_of_ble_eq_true rfl) (by decide) (by decide) wc_J_prepare wi_J wl_A_104 wm_J_prepare we_J_prepare (by decide) np_J_prepare (Nat.le_of_ble_eq_true rfl) (fun q hq => by cases hq) (c_J_prepare hs _ _ _) (fun k a h1 q => by cases q.1) (fun v h1 q => ?_)
  obtain ⟨q1, rfl⟩ := q
  cases q1
  first | refine x_aload_n d_A_begin_61 rfl ?_ | refine x_aloadq_n d_A_begin_61 rfl ?_
  refine x_iload_n d_A_begin_62 rfl ?_
  refine xc_putA (j := 9) d_A_begin_63 hs rfl (by decide) wf_A_57 (Or.inl rfl) (by first | rfl | assumption) rfl (fun _ _ => rfl) ?_
  first | refine x_aload_n d_A_begin_66 rfl ?_ | refine x_aloadq_n d_A_begin_66 rfl ?_
  refine x_iconst (v := nI 1) d_A_begin_67 (by decide) ?_
  refine xc_putA (j := 7) d_A_begin_68 hs rfl (by decide) wf_A_49 (Or.inl rfl) (by first | rfl | assumption) rfl (fun _ _ => rfl) ?_
  rw [tq_xu (by omega), tq_xu (by omega)]
  refine x_iconst (v := nI 0) d_A_begin_71 (by decide) ?_
  refine x_istore d_A_begin_72 (by decide) ?_
  refine xV.loc (this) (by repeat (first | exact trivial | refine ⟨rfl, ?_⟩))
theorem c_A_beginX0 (hnt : l.stackTraces = false) {h : xH} {m r p B : Int32} (hok : ¬ okb m r p B) : xVM l G 8 124 m_A_begin [.ref z, .int m, .int r, .int p, .int B] h (fun q h' => q = .inr (0, xnx h) ∧ h' = thrw 0 h) := by
  unfold xVM
  refine x_iload_n d_A_begin_0 rfl ?_
  refine x_iconst (v := nI 0) d_A_begin_1 (by decide) ?_
  refine x_iconst (v := nI 4) d_A_begin_2 (by decide) ?_
  by_cases g1 : rng m 0 4
  · skip
    refine x_callS (M' := m_A_demandRange) (As := [_, _, _]) (fr' := 7) (wd' := 102) d_A_begin_3 pl_A_demandRange rfl (Nat.le_of_ble_eq_true rfl) (by decide) (by decide) wc_A_demandRange wi_A wl_A_81 ws_A_demandRange (by decide) np_A_demandRange (Nat.le_of_ble_eq_true rfl) (fun q hq => by cases hq) (c_A_range g1) (fun k a h1 q => by cases q.1) (fun v h1 q => ?_)
    obtain ⟨q1, rfl⟩ := q
    cases q1
    refine x_iload_n d_A_begin_6 rfl ?_
    refine x_iconst (v := nI 0) d_A_begin_7 (by decide) ?_
    refine x_iconst (v := nI 4) d_A_begin_8 (by decide) ?_
    by_cases g2 : rng r 0 4
    · skip
      refine x_callS (M' := m_A_demandRange) (As := [_, _, _]) (fr' := 7) (wd' := 102) d_A_begin_9 pl_A_demandRange rfl (Nat.le_of_ble_eq_true rfl) (by decide) (by decide) wc_A_demandRange wi_A wl_A_81 ws_A_demandRange (by decide) np_A_demandRange (Nat.le_of_ble_eq_true rfl) (fun q hq => by cases hq) (c_A_range g2) (fun k a h1 q => by cases q.1) (fun v h1 q => ?_)
      obtain ⟨q1, rfl⟩ := q
      cases q1
      refine x_iload_n d_A_begin_12 rfl ?_
      refine x_iconst (v := nI 1) d_A_begin_13 (by decide) ?_
      refine x_iconst (v := nI 3) d_A_begin_14 (by decide) ?_
      by_cases g3 : rng p 1 3
      · skip
        refine x_callS (M' := m_A_demandRange) (As := [_, _, _]) (fr' := 7) (wd' := 102) d_A_begin_15 pl_A_demandRange rfl (Nat.le_of_ble_eq_true rfl) (by decide) (by decide) wc_A_demandRange wi_A wl_A_81 ws_A_demandRange (by decide) np_A_demandRange (Nat.le_of_ble_eq_true rfl) (fun q hq => by cases hq) (c_A_range g3) (fun k a h1 q => by cases q.1) (fun v h1 q => ?_)
        obtain ⟨q1, rfl⟩ := q
        cases q1
        refine x_iload d_A_begin_18 rfl ?_
        refine x_iconst (v := nI 2) d_A_begin_20 (by decide) ?_
        refine x_bipush (v := nI 6) d_A_begin_21 (by decide) ?_
        refine x_callS (M' := m_A_demandRange) (As := [_, _, _]) (fr' := 7) (wd' := 102) d_A_begin_23 pl_A_demandRange rfl (Nat.le_of_ble_eq_true rfl) (by decide) (by decide) wc_A_demandRange wi_A wl_A_81 ws_A_demandRange (by decide) np_A_demandRange (Nat.le_of_ble_eq_true rfl) (fun q hq => by cases hq) (c_A_rangeX hnt (fun q => hok ⟨g1, g2, g3, q⟩)) (fun k a h1 q => ?_) (fun v h1 q => by cases q.1)
        obtain ⟨q1, rfl⟩ := q
        cases q1
        exact ⟨rfl, rfl⟩
      · skip
        refine x_callS (M' := m_A_demandRange) (As := [_, _, _]) (fr' := 7) (wd' := 102) d_A_begin_15 pl_A_demandRange rfl (Nat.le_of_ble_eq_true rfl) (by decide) (by decide) wc_A_demandRange wi_A wl_A_81 ws_A_demandRange (by decide) np_A_demandRange (Nat.le_of_ble_eq_true rfl) (fun q hq => by cases hq) (c_A_rangeX hnt g3) (fun k a h1 q => ?_) (fun v h1 q => by cases q.1)
        obtain ⟨q1, rfl⟩ := q
        cases q1
        exact ⟨rfl, rfl⟩
    · skip
      refine x_callS (M' := m_A_demandRange) (As := [_, _, _]) (fr' := 7) (wd' := 102) d_A_begin_9 pl_A_demandRange rfl (Nat.le_of_ble_eq_true rfl) (by decide) (by decide) wc_A_demandRange wi_A wl_A_81 ws_A_demandRange (by decide) np_A_demandRange (Nat.le_of_ble_eq_true rfl) (fun q hq => by cases hq) (c_A_rangeX hnt g2) (fun k a h1 q => ?_) (fun v h1 q => by cases q.1)
      obtain ⟨q1, rfl⟩ := q
      cases q1
      exact ⟨rfl, rfl⟩
  · skip
    refine x_callS (M' := m_A_demandRange) (As := [_, _, _]) (fr' := 7) (wd' := 102) d_A_begin_3 pl_A_demandRange rfl (Nat.le_of_ble_eq_true rfl) (by decide) (by decide) wc_A_demandRange wi_A wl_A_81 ws_A_demandRange (by decide) np_A_demandRange (Nat.le_of_ble_eq_true rfl) (fun q hq => by cases hq) (c_A_rangeX hnt g1) (fun k a h1 q => ?_) (fun v h1 q => by cases q.1)
    obtain ⟨q1, rfl⟩ := q
    cases q1
    exact ⟨rfl, rfl⟩
theorem c_A_beginX1 (hnt : l.stackTraces = false) (hs : CSh h0 z) {m r p B : Int32} {c : Nat} (hok : okb m r p B) (hc : C 0 8 = nI c) (hu : ¬ C 0 7 = 0 ∨ c = 0) : xVM l G 8 124 m_A_begin [.ref z, .int m, .int r, .int p, .int B] (cset z C b tk h0) (fun q h' => q = .inr (1, xnx (cset z C b tk h0)) ∧ h' = thrw 1 (cset z C b tk h0)) := by
  obtain ⟨g1, g2, g3, g4⟩ := hok
  unfold xVM
  refine x_iload_n d_A_begin_0 rfl ?_
  refine x_iconst (v := nI 0) d_A_begin_1 (by decide) ?_
  refine x_iconst (v := nI 4) d_A_begin_2 (by decide) ?_
  refine x_callS (M' := m_A_demandRange) (As := [_, _, _]) (fr' := 7) (wd' := 102) d_A_begin_3 pl_A_demandRange rfl (Nat.le_of_ble_eq_true rfl) (by decide) (by decide) wc_A_demandRange wi_A wl_A_81 ws_A_demandRange (by decide) np_A_demandRange (Nat.le_of_ble_eq_true rfl) (fun q hq => by cases hq) (c_A_range g1) (fun k a h1 q => by cases q.1) (fun v h1 q => ?_)
  obtain ⟨q1, rfl⟩ := q
  cases q1
  refine x_iload_n d_A_begin_6 rfl ?_
  refine x_iconst (v := nI 0) d_A_begin_7 (by decide) ?_
  refine x_iconst (v := nI 4) d_A_begin_8 (by decide) ?_
  refine x_callS (M' := m_A_demandRange) (As := [_, _, _]) (fr' := 7) (wd' := 102) d_A_begin_9 pl_A_demandRange rfl (Nat.le_of_ble_eq_true rfl) (by decide) (by decide) wc_A_demandRange wi_A wl_A_81 ws_A_demandRange (by decide) np_A_demandRange (Nat.le_of_ble_eq_true rfl) (fun q hq => by cases hq) (c_A_range g2) (fun k a h1 q => by cases q.1) (fun v h1 q => ?_)
  obtain ⟨q1, rfl⟩ := q
  cases q1
  refine x_iload_n d_A_begin_12 rfl ?_
  refine x_iconst (v := nI 1) d_A_begin_13 (by decide) ?_
  refine x_iconst (v := nI 3) d_A_begin_14 (by decide) ?_
  refine x_callS (M' := m_A_demandRange) (As := [_, _, _]) (fr' := 7) (wd' := 102) d_A_begin_15 pl_A_demandRange rfl (Nat.le_of_ble_eq_true rfl) (by decide) (by decide) wc_A_demandRange wi_A wl_A_81 ws_A_demandRange (by decide) np_A_demandRange (Nat.le_of_ble_eq_true rfl) (fun q hq => by cases hq) (c_A_range g3) (fun k a h1 q => by cases q.1) (fun v h1 q => ?_)
  obtain ⟨q1, rfl⟩ := q
  cases q1
  refine x_iload d_A_begin_18 rfl ?_
  refine x_iconst (v := nI 2) d_A_begin_20 (by decide) ?_
  refine x_bipush (v := nI 6) d_A_begin_21 (by decide) ?_
  refine x_callS (M' := m_A_demandRange) (As := [_, _, _]) (fr' := 7) (wd' := 102) d_A_begin_23 pl_A_demandRange rfl (Nat.le_of_ble_eq_true rfl) (by decide) (by decide) wc_A_demandRange wi_A wl_A_81 ws_A_demandRange (by decide) np_A_demandRange (Nat.le_of_ble_eq_true rfl) (fun q hq => by cases hq) (c_A_range g4) (fun k a h1 q => by cases q.1) (fun v h1 q => ?_)
  obtain ⟨q1, rfl⟩ := q
  cases q1
  first | refine x_aload_n d_A_begin_26 rfl ?_ | refine x_aloadq_n d_A_begin_26 rfl ?_
  refine xc_getA (j := 7) d_A_begin_27 hs rfl (by decide) wf_A_49 (fun _ _ => rfl) ?_
  by_cases u0 : C 0 7 = 0
  · have c0 : c = 0 := by rcases hu with q | q; exact absurd u0 q; exact q
    refine x_if_ne_f 40 d_A_begin_30 (by decide) (u0) ?_
    first | refine x_aload_n d_A_begin_33 rfl ?_ | refine x_aloadq_n d_A_begin_33 rfl ?_
    refine xc_getA (j := 8) d_A_begin_34 hs rfl (by decide) wf_A_53 (fun _ _ => rfl) ?_
    rw [hc]
    refine x_if_ne_f 48 d_A_begin_37 (by decide) ((by rw [c0]; rfl)) ?_
    exact x_thr1 rfl d_A_begin_40 d_A_begin_43 d_A_begin_44 d_A_begin_47 rfl hnt (by decide) (by decide) (Nat.le_of_ble_eq_true rfl) ⟨rfl, rfl⟩
  · skip
    refine x_if_ne_t (tgt := 40) d_A_begin_30 (by decide) (u0) ?_
    exact x_thr1 rfl d_A_begin_40 d_A_begin_43 d_A_begin_44 d_A_begin_47 rfl hnt (by decide) (by decide) (Nat.le_of_ble_eq_true rfl) ⟨rfl, rfl⟩
end XC8

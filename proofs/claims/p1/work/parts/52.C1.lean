/-- what is thrown: kind k, a new cell -/
abbrev thrw (k : Nat) (h : xH) : xH := xnw h (200 + k) 0 6
/-- the tasks know what they are -/
def TN (C : Nat → Nat → Int32) : Prop := ∀ t, tok t → C (taddr t) 0 = (if t < 8 then nI 1 else nI 0) ∧ C (taddr t) 1 = nI (t % 8)
def TKo (tk : Nat → Option Nat) : Prop := ∀ w t, w < 4 → tk w = some t → tok t
section XC1
variable {l : Launch} {G : xG} {h0 : xH} {z : Nat} {C : Nat → Nat → Int32} {b : Bool} {tk : Nat → Option Nat}
theorem tk_is (htk : TKo tk) {w t : Nat} (hw : w < 4) (ht : tok t) : (tk w).map (fun t => z + taddr t) = some (z + taddr t) ↔ tk w = some t := by
  cases h : tk w with
  | none => simp
  | some s =>
    constructor
    · intro q
      have h1 : z + taddr s = z + taddr t := Option.some.inj q
      rw [taddr_inj (htk w s hw h) ht (by omega)]
    · intro q; rw [Option.some.inj q]; rfl
theorem c_A_range {h : xH} {v lo hi : Int32} (hq : lo ≤ v ∧ v ≤ hi) : xVM l G 7 102 m_A_demandRange [.int v, .int lo, .int hi] h (fun r h' => r = .inl none ∧ h' = h) := by
  unfold xVM
  refine x_iload_n d_A_demandRange_0 rfl ?_
  refine x_iload_n d_A_demandRange_1 rfl ?_
  refine x_icmp_lt_f 10 d_A_demandRange_2 (by decide) ((Int32.not_lt.mpr hq.1)) ?_
  refine x_iload_n d_A_demandRange_5 rfl ?_
  refine x_iload_n d_A_demandRange_6 rfl ?_
  refine x_icmp_le_t (tgt := 18) d_A_demandRange_7 (by decide) (hq.2) ?_
  refine x_vret d_A_demandRange_18 rfl ?_
  exact ⟨rfl, rfl⟩
theorem c_A_rangeX (hnt : l.stackTraces = false) {h : xH} {v lo hi : Int32} (hq : ¬ (lo ≤ v ∧ v ≤ hi)) : xVM l G 7 102 m_A_demandRange [.int v, .int lo, .int hi] h (fun r h' => r = .inr (0, xnx h) ∧ h' = thrw 0 h) := by
  unfold xVM
  refine x_iload_n d_A_demandRange_0 rfl ?_
  refine x_iload_n d_A_demandRange_1 rfl ?_
  refine x_icmp_lt (tgt := 10) d_A_demandRange_2 (by decide) (fun c1 => ?_) (fun c1 => ?_)
  · skip
    exact x_thr0 rfl d_A_demandRange_10 d_A_demandRange_13 d_A_demandRange_14 d_A_demandRange_17 rfl hnt (by decide) (by decide) (Nat.le_of_ble_eq_true rfl) ⟨rfl, rfl⟩
  · refine x_iload_n d_A_demandRange_5 rfl ?_
    refine x_iload_n d_A_demandRange_6 rfl ?_
    refine x_icmp_le_f 18 d_A_demandRange_7 (by decide) ((fun q => hq ⟨Int32.not_lt.mp c1, q⟩)) ?_
    exact x_thr0 rfl d_A_demandRange_10 d_A_demandRange_13 d_A_demandRange_14 d_A_demandRange_17 rfl hnt (by decide) (by decide) (Nat.le_of_ble_eq_true rfl) ⟨rfl, rfl⟩
theorem c_A_job (hs : CSh h0 z) (hq : ¬ C 0 7 = 0) : xVM l G 7 102 m_A_demandJob [.ref z] (cset z C b tk h0) (fun r h' => r = .inl none ∧ h' = cset z C b tk h0) := by
  unfold xVM
  first | refine x_aload_n d_A_demandJob_0 rfl ?_ | refine x_aloadq_n d_A_demandJob_0 rfl ?_
  refine xc_getA (j := 7) d_A_demandJob_1 hs rfl (by decide) wf_A_49 (fun _ _ => rfl) ?_
  refine x_if_ne_t (tgt := 15) d_A_demandJob_4 (by decide) (hq) ?_
  refine x_vret d_A_demandJob_15 rfl ?_
  exact ⟨rfl, rfl⟩
theorem c_A_jobX (hnt : l.stackTraces = false) (hs : CSh h0 z) (hq : C 0 7 = 0) : xVM l G 7 102 m_A_demandJob [.ref z] (cset z C b tk h0) (fun r h' => r = .inr (1, xnx (cset z C b tk h0)) ∧ h' = thrw 1 (cset z C b tk h0)) := by
  unfold xVM
  first | refine x_aload_n d_A_demandJob_0 rfl ?_ | refine x_aloadq_n d_A_demandJob_0 rfl ?_
  refine xc_getA (j := 7) d_A_demandJob_1 hs rfl (by decide) wf_A_49 (fun _ _ => rfl) ?_
  refine x_if_ne_f 15 d_A_demandJob_4 (by decide) (hq) ?_
  exact x_thr1 rfl d_A_demandJob_7 d_A_demandJob_10 d_A_demandJob_11 d_A_demandJob_14 rfl hnt (by decide) (by decide) (Nat.le_of_ble_eq_true rfl) ⟨rfl, rfl⟩
/-- how many of the first n workers do task t -/
def cdo (tk : Nat → Option Nat) (t : Nat) : Nat → Nat
  | 0 => 0
  | n + 1 => cdo tk t n + (if tk n = some t then 1 else 0)
theorem c_A_doers (hs : CSh h0 z) (htk : TKo tk) {t : Nat} (ht : tok t) : xVM l G 0 0 m_A_doers [.ref z, .ref (z + taddr t)] (cset z C b tk h0) (fun r h' => r = .inl (some (.int (nI (cdo tk t 4)))) ∧ h' = cset z C b tk h0) := by
  have lp : ∀ m i : Nat, i + m = 4 → xV l G 0 0 m_A_doers 4 [(3, .int (nI i)), (2, .int (nI (cdo tk t i))), (0, .ref z), (1, .ref (z + taddr t))] [] (cset z C b tk h0) (fun r h' => r = .inl (some (.int (nI (cdo tk t 4)))) ∧ h' = cset z C b tk h0) := by
    intro m
    induction m with
    | zero =>
      intro i him
      obtain rfl : i = 4 := by omega
      refine x_iload_n d_A_doers_4 rfl ?_
      refine x_iconst (v := nI 4) d_A_doers_5 (by decide) ?_
      refine x_icmp_ge_t (tgt := 31) d_A_doers_6 (by decide) ((nI_le (by omega) (by omega))) ?_
      refine x_iload_n d_A_doers_31 rfl ?_
      refine x_iret d_A_doers_32 rfl (by first | rfl | assumption) ?_
      exact ⟨rfl, rfl⟩
    | succ m ih =>
      intro i him
      have nx := ih (i + 1) (by omega)
      refine x_iload_n d_A_doers_4 rfl ?_
      refine x_iconst (v := nI 4) d_A_doers_5 (by decide) ?_
      refine x_icmp_ge_f 31 d_A_doers_6 (by decide) ((nI_ge (by omega) (by omega))) ?_
      first | refine x_aload_n d_A_doers_9 rfl ?_ | refine x_aloadq_n d_A_doers_9 rfl ?_
      refine xc_refA (j := 0) d_A_doers_10 hs rfl (by decide) wf_A_11 (fun _ _ => rfl) hs.r0 ?_
      refine x_iload_n d_A_doers_13 rfl ?_
      first | refine xc_aaW d_A_doers_14 hs (by first | assumption | omega) ?_ | refine xc_aaC d_A_doers_14 hs (by first | assumption | omega) ?_ | refine xc_aaM d_A_doers_14 hs (by first | assumption | omega) ?_ | refine xc_aaR d_A_doers_14 hs (by first | assumption | omega) ?_ | refine xc_aaT d_A_doers_14 hs (by first | assumption | omega) ?_ | refine xc_aaO d_A_doers_14 hs (by first | assumption | omega) ?_
      refine xc_task d_A_doers_15 hs (by first | assumption | omega) rfl (by decide) wf_A_237 (fun _ _ => rfl) ?_
      first | refine x_aload_n d_A_doers_18 rfl ?_ | refine x_aloadq_n d_A_doers_18 rfl ?_
      refine x_acmp_ne (tgt := 25) (ry := some _) d_A_doers_19 (by decide) (fun c1 => ?_) (fun c1 => ?_)
      · have hne : ¬ tk i = some t := fun q => c1 ((tk_is htk (by omega) ht).mpr q)
        rw [show cdo tk t (i + 1) = cdo tk t i by simp [cdo, hne]] at nx
        first | refine x_incN d_A_doers_25 rfl (by decide) ?_ | refine x_inc d_A_doers_25 rfl (by decide) ?_
        refine x_goto (tgt := 4) d_A_doers_28 (by decide) ?_
        exact nx
      · rw [show cdo tk t (i + 1) = cdo tk t i + 1 by simp [cdo, (tk_is htk (by omega) ht).mp c1]] at nx
        first | refine x_incN d_A_doers_22 rfl (by decide) ?_ | refine x_inc d_A_doers_22 rfl (by decide) ?_
        first | refine x_incN d_A_doers_25 rfl (by decide) ?_ | refine x_inc d_A_doers_25 rfl (by decide) ?_
        refine x_goto (tgt := 4) d_A_doers_28 (by decide) ?_
        exact nx
  unfold xVM
  refine x_iconst (v := nI 0) d_A_doers_0 (by decide) ?_
  refine x_istore_n d_A_doers_1 (by decide) ?_
  refine x_iconst (v := nI 0) d_A_doers_2 (by decide) ?_
  refine x_istore_n d_A_doers_3 (by decide) ?_
  exact lp 4 0 (by omega)
def cld (tk : Nat → Option Nat) (t : Nat) : Option Nat := lst (fun w => decide (tk w = some t)) 4
theorem lst_first {p : Nat → Bool} {n i : Nat} (hi : i < n) (h1 : ∀ j, j < i → p j = false) (h2 : p i = true) : lst p n = some i := by
  induction n with
  | zero => omega
  | succ n ih =>
    by_cases h3 : i < n
    · exact lst_some (ih h3)
    · obtain rfl : i = n := by omega
      exact lst_hit (lst_none h1) h2
theorem c_A_leastDoer (hs : CSh h0 z) (htk : TKo tk) {t : Nat} (ht : tok t) : xVM l G 0 0 m_A_leastDoer [.ref z, .ref (z + taddr t)] (cset z C b tk h0) (fun r h' => r = .inl (some (.int (oI (cld tk t)))) ∧ h' = cset z C b tk h0) := by
  have lp : ∀ m i : Nat, i + m = 4 → (∀ j, j < i → decide (tk j = some t) = false) → xV l G 0 0 m_A_leastDoer 2 [(2, .int (nI i)), (0, .ref z), (1, .ref (z + taddr t))] [] (cset z C b tk h0) (fun r h' => r = .inl (some (.int (oI (cld tk t)))) ∧ h' = cset z C b tk h0) := by
    intro m
    induction m with
    | zero =>
      intro i him hj
      obtain rfl : i = 4 := by omega
      refine x_iload_n d_A_leastDoer_2 rfl ?_
      refine x_iconst (v := nI 4) d_A_leastDoer_3 (by decide) ?_
      refine x_icmp_ge_t (tgt := 28) d_A_leastDoer_4 (by decide) ((nI_le (by omega) (by omega))) ?_
      refine x_iconst (v := (-1)) d_A_leastDoer_28 (by decide) ?_
      refine x_iret d_A_leastDoer_29 rfl (by first | rfl | assumption) ?_
      exact ⟨by unfold cld; rw [lst_none hj]; rfl, rfl⟩
    | succ m ih =>
      intro i him hj
      refine x_iload_n d_A_leastDoer_2 rfl ?_
      refine x_iconst (v := nI 4) d_A_leastDoer_3 (by decide) ?_
      refine x_icmp_ge_f 28 d_A_leastDoer_4 (by decide) ((nI_ge (by omega) (by omega))) ?_
      first | refine x_aload_n d_A_leastDoer_7 rfl ?_ | refine x_aloadq_n d_A_leastDoer_7 rfl ?_
      refine xc_refA (j := 0) d_A_leastDoer_8 hs rfl (by decide) wf_A_11 (fun _ _ => rfl) hs.r0 ?_
      refine x_iload_n d_A_leastDoer_11 rfl ?_
      first | refine xc_aaW d_A_leastDoer_12 hs (by first | assumption | omega) ?_ | refine xc_aaC d_A_leastDoer_12 hs (by first | assumption | omega) ?_ | refine xc_aaM d_A_leastDoer_12 hs (by first | assumption | omega) ?_ | refine xc_aaR d_A_leastDoer_12 hs (by first | assumption | omega) ?_ | refine xc_aaT d_A_leastDoer_12 hs (by first | assumption | omega) ?_ | refine xc_aaO d_A_leastDoer_12 hs (by first | assumption | omega) ?_
      refine xc_task d_A_leastDoer_13 hs (by first | assumption | omega) rfl (by decide) wf_A_237 (fun _ _ => rfl) ?_
      first | refine x_aload_n d_A_leastDoer_16 rfl ?_ | refine x_aloadq_n d_A_leastDoer_16 rfl ?_
      refine x_acmp_ne (tgt := 22) (ry := some _) d_A_leastDoer_17 (by decide) (fun c1 => ?_) (fun c1 => ?_)
      · have nx := ih (i + 1) (by omega) (fun j hj9 => by
          rcases Nat.lt_succ_iff_lt_or_eq.mp hj9 with h2 | h2
          · exact hj j h2
          · rw [h2]; exact decide_eq_false (fun q => c1 ((tk_is htk (by omega) ht).mpr q)))
        first | refine x_incN d_A_leastDoer_22 rfl (by decide) ?_ | refine x_inc d_A_leastDoer_22 rfl (by decide) ?_
        refine x_goto (tgt := 2) d_A_leastDoer_25 (by decide) ?_
        exact nx
      · refine x_iload_n d_A_leastDoer_20 rfl ?_
        refine x_iret d_A_leastDoer_21 rfl (by first | rfl | assumption) ?_
        exact ⟨by unfold cld; rw [lst_first (by omega) hj (decide_eq_true ((tk_is htk (by omega) ht).mp c1))]; rfl, rfl⟩
  unfold xVM
  refine x_iconst (v := nI 0) d_A_leastDoer_0 (by decide) ?_
  refine x_istore_n d_A_leastDoer_1 (by decide) ?_
  exact lp 4 0 (by omega) (fun j hj => absurd hj (Nat.not_lt_zero j))
def cany (tk : Nat → Option Nat) : Bool := (lst (fun w => (tk w).isSome) 4).isSome
theorem c_A_anyoneWorks (hs : CSh h0 z) : xVM l G 0 0 m_A_anyoneWorks [.ref z] (cset z C b tk h0) (fun r h' => r = .inl (some (.int (bI (cany tk = true)))) ∧ h' = cset z C b tk h0) := by
  have lp : ∀ m i : Nat, i + m = 4 → (∀ j, j < i → (tk j).isSome = false) → xV l G 0 0 m_A_anyoneWorks 2 [(1, .int (nI i)), (0, .ref z)] [] (cset z C b tk h0) (fun r h' => r = .inl (some (.int (bI (cany tk = true)))) ∧ h' = cset z C b tk h0) := by
    intro m
    induction m with
    | zero =>
      intro i him hj
      obtain rfl : i = 4 := by omega
      refine x_iload_n d_A_anyoneWorks_2 rfl ?_
      refine x_iconst (v := nI 4) d_A_anyoneWorks_3 (by decide) ?_
      refine x_icmp_ge_t (tgt := 27) d_A_anyoneWorks_4 (by decide) ((nI_le (by omega) (by omega))) ?_
      refine x_iconst (v := nI 0) d_A_anyoneWorks_27 (by decide) ?_
      refine x_iret d_A_anyoneWorks_28 rfl (by first | rfl | assumption) ?_
      exact ⟨by rw [bI_f]; unfold cany; rw [lst_none hj]; decide, rfl⟩
    | succ m ih =>
      intro i him hj
      refine x_iload_n d_A_anyoneWorks_2 rfl ?_
      refine x_iconst (v := nI 4) d_A_anyoneWorks_3 (by decide) ?_
      refine x_icmp_ge_f 27 d_A_anyoneWorks_4 (by decide) ((nI_ge (by omega) (by omega))) ?_
      first | refine x_aload_n d_A_anyoneWorks_7 rfl ?_ | refine x_aloadq_n d_A_anyoneWorks_7 rfl ?_
      refine xc_refA (j := 0) d_A_anyoneWorks_8 hs rfl (by decide) wf_A_11 (fun _ _ => rfl) hs.r0 ?_
      refine x_iload_n d_A_anyoneWorks_11 rfl ?_
      first | refine xc_aaW d_A_anyoneWorks_12 hs (by first | assumption | omega) ?_ | refine xc_aaC d_A_anyoneWorks_12 hs (by first | assumption | omega) ?_ | refine xc_aaM d_A_anyoneWorks_12 hs (by first | assumption | omega) ?_ | refine xc_aaR d_A_anyoneWorks_12 hs (by first | assumption | omega) ?_ | refine xc_aaT d_A_anyoneWorks_12 hs (by first | assumption | omega) ?_ | refine xc_aaO d_A_anyoneWorks_12 hs (by first | assumption | omega) ?_
      refine xc_task d_A_anyoneWorks_13 hs (by first | assumption | omega) rfl (by decide) wf_A_237 (fun _ _ => rfl) ?_
      cases ht : tk i with
      | none =>
        have nx := ih (i + 1) (by omega) (fun j hj9 => by
          rcases Nat.lt_succ_iff_lt_or_eq.mp hj9 with h2 | h2
          · exact hj j h2
          · rw [h2, ht]; rfl)
        refine x_ifnullN (tgt := 21) d_A_anyoneWorks_16 (by decide) ?_
        first | refine x_incN d_A_anyoneWorks_21 rfl (by decide) ?_ | refine x_inc d_A_anyoneWorks_21 rfl (by decide) ?_
        refine x_goto (tgt := 2) d_A_anyoneWorks_24 (by decide) ?_
        exact nx
      | some t =>
        refine x_ifnull d_A_anyoneWorks_16 ?_
        refine x_iconst (v := nI 1) d_A_anyoneWorks_19 (by decide) ?_
        refine x_iret d_A_anyoneWorks_20 rfl (by first | rfl | assumption) ?_
        exact ⟨by rw [bI_t]; unfold cany; rw [lst_first (i := i) (by omega) hj (by rw [ht]; rfl)]; rfl, rfl⟩
  unfold xVM
  refine x_iconst (v := nI 0) d_A_anyoneWorks_0 (by decide) ?_
  refine x_istore_n d_A_anyoneWorks_1 (by decide) ?_
  exact lp 4 0 (by omega) (fun j hj => absurd hj (Nat.not_lt_zero j))
theorem c_A_taskCount (hs : CSh h0 z) (mp : Int32) : xVM l G 0 0 m_A_taskCount [.ref z, .int mp] (cset z C b tk h0) (fun r h' => r = .inl (some (.int (if mp = 0 then C (jo b) 3 else C 0 8))) ∧ h' = cset z C b tk h0) := by
  unfold xVM
  refine x_iload_n d_A_taskCount_0 rfl ?_
  refine x_if_eq (tgt := 11) d_A_taskCount_1 (by decide) (fun c1 => ?_) (fun c1 => ?_)
  · first | refine x_aload_n d_A_taskCount_11 rfl ?_ | refine x_aloadq_n d_A_taskCount_11 rfl ?_
    refine xc_refA (j := 5) d_A_taskCount_12 hs rfl (by decide) wf_A_42 (fun _ _ => rfl) cset_job ?_
    refine xc_get (kc := 2) (j := 3) d_A_taskCount_15 (hs.J _) (jo75 _) rfl (by decide) wf_A_140 (fun _ _ => rfl) ?_
    refine x_iret d_A_taskCount_18 rfl (by first | rfl | assumption) ?_
    exact ⟨by rw [if_pos c1], rfl⟩
  · first | refine x_aload_n d_A_taskCount_4 rfl ?_ | refine x_aloadq_n d_A_taskCount_4 rfl ?_
    refine xc_getA (j := 8) d_A_taskCount_5 hs rfl (by decide) wf_A_53 (fun _ _ => rfl) ?_
    refine x_goto (tgt := 18) d_A_taskCount_8 (by decide) ?_
    refine x_iret d_A_taskCount_18 rfl (by first | rfl | assumption) ?_
    exact ⟨by rw [if_neg c1], rfl⟩
theorem c_isDone (hs : CSh h0 z) {t : Nat} (ht : tok t) : xVM l G 0 0 m_T_isDone [.ref (z + taddr t)] (cset z C b tk h0) (fun r h' => r = .inl (some (.int (bI (¬ C (taddr t) 4 = -1)))) ∧ h' = cset z C b tk h0) := by
  unfold xVM
  first | refine x_aload_n d_T_isDone_0 rfl ?_ | refine x_aloadq_n d_T_isDone_0 rfl ?_
  refine xc_get (kc := 4) (j := 4) d_T_isDone_1 (hs.T (by first | assumption | omega)) (taddr_lt (by first | assumption | omega)).1 rfl (by decide) wf_T_18 (fun _ _ => rfl) ?_
  refine x_iconst (v := (-1)) d_T_isDone_4 (by decide) ?_
  refine x_icmp_eq (tgt := 12) d_T_isDone_5 (by decide) (fun c1 => ?_) (fun c1 => ?_)
  · refine x_iconst (v := nI 0) d_T_isDone_12 (by decide) ?_
    refine x_iret d_T_isDone_13 rfl (by first | rfl | assumption) ?_
    exact ⟨by rw [bI_f (fun q => q c1)], rfl⟩
  · refine x_iconst (v := nI 1) d_T_isDone_8 (by decide) ?_
    refine x_goto (tgt := 13) d_T_isDone_9 (by decide) ?_
    refine x_iret d_T_isDone_13 rfl (by first | rfl | assumption) ?_
    exact ⟨by rw [bI_t c1], rfl⟩
theorem c_A_allDoneM (hs : CSh h0 z) {mp : Int32} (hm : ¬ mp = 0) {c : Nat} (hc : C 0 8 = nI c) (hc6 : c ≤ 6) : xVM l G 1 21 m_A_allDone [.ref z, .int mp] (cset z C b tk h0) (fun r h' => r = .inl (some (.int (bI (∀ t, t < c → ¬ C (taddr t) 4 = -1)))) ∧ h' = cset z C b tk h0) := by
  have lp : ∀ m i : Nat, i + m = c → (∀ t, t < i → ¬ C (taddr t) 4 = -1) → xV l G 1 21 m_A_allDone 18 [(3, .int (nI i)), (2, .ref (z + 3)), (0, .ref z), (1, .int mp)] [] (cset z C b tk h0) (fun r h' => r = .inl (some (.int (bI (∀ t, t < c → ¬ C (taddr t) 4 = -1)))) ∧ h' = cset z C b tk h0) := by
    intro m
    induction m with
    | zero =>
      intro i him hi
      obtain rfl : i = c := by omega
      refine x_iload_n d_A_allDone_18 rfl ?_
      first | refine x_aload_n d_A_allDone_19 rfl ?_ | refine x_aloadq_n d_A_allDone_19 rfl ?_
      refine x_iload_n d_A_allDone_20 rfl ?_
      refine x_callV (M' := m_A_taskCount) (As := [_]) (fr' := 0) (wd' := 0) d_A_allDone_21 hs.A rfl pl_A_taskCount rfl (Nat.le_of_ble_eq_true rfl) (by decide) (by decide) wc_A_taskCount wi_A wl_A_162 wm_A_taskCount we_A_taskCount (by decide) np_A_taskCount (Nat.le_of_ble_eq_true rfl) (fun q hq => by cases hq) (c_A_taskCount hs _) (fun k a h1 q => by cases q.1) (fun v h1 q => ?_)
      obtain ⟨q1, rfl⟩ := q
      cases q1
      rw [if_neg hm, hc]
      refine x_icmp_ge_t (tgt := 44) d_A_allDone_24 (by decide) ((nI_le (by omega) (by omega))) ?_
      refine x_iconst (v := nI 1) d_A_allDone_44 (by decide) ?_
      refine x_iret d_A_allDone_45 rfl (by first | rfl | assumption) ?_
      exact ⟨by rw [bI_t hi], rfl⟩
    | succ m ih =>
      intro i him hi
      refine x_iload_n d_A_allDone_18 rfl ?_
      first | refine x_aload_n d_A_allDone_19 rfl ?_ | refine x_aloadq_n d_A_allDone_19 rfl ?_
      refine x_iload_n d_A_allDone_20 rfl ?_
      refine x_callV (M' := m_A_taskCount) (As := [_]) (fr' := 0) (wd' := 0) d_A_allDone_21 hs.A rfl pl_A_taskCount rfl (Nat.le_of_ble_eq_true rfl) (by decide) (by decide) wc_A_taskCount wi_A wl_A_162 wm_A_taskCount we_A_taskCount (by decide) np_A_taskCount (Nat.le_of_ble_eq_true rfl) (fun q hq => by cases hq) (c_A_taskCount hs _) (fun k a h1 q => by cases q.1) (fun v h1 q => ?_)
      obtain ⟨q1, rfl⟩ := q
      cases q1
      rw [if_neg hm, hc]
      refine x_icmp_ge_f 44 d_A_allDone_24 (by decide) ((nI_ge (by omega) (by omega))) ?_
      first | refine x_aload_n d_A_allDone_27 rfl ?_ | refine x_aloadq_n d_A_allDone_27 rfl ?_
      refine x_iload_n d_A_allDone_28 rfl ?_
      first | refine xc_aaW d_A_allDone_29 hs (by first | assumption | omega) ?_ | refine xc_aaC d_A_allDone_29 hs (by first | assumption | omega) ?_ | refine xc_aaM d_A_allDone_29 hs (by first | assumption | omega) ?_ | refine xc_aaR d_A_allDone_29 hs (by first | assumption | omega) ?_ | refine xc_aaT d_A_allDone_29 hs (by first | assumption | omega) ?_ | refine xc_aaO d_A_allDone_29 hs (by first | assumption | omega) ?_
      refine x_callV (M' := m_T_isDone) (As := []) (fr' := 0) (wd' := 0) d_A_allDone_30 (hs.T (by first | assumption | omega)) rfl pl_T_isDone rfl (Nat.le_of_ble_eq_true rfl) (by decide) (by decide) wc_T_isDone wi_T wl_A_180 wm_T_isDone we_T_isDone (by decide) np_T_isDone (Nat.le_of_ble_eq_true rfl) (fun q hq => by cases hq) (c_isDone hs (by omega)) (fun k a h1 q => by cases q.1) (fun v h1 q => ?_)
      obtain ⟨q1, rfl⟩ := q
      cases q1
      refine x_if_ne (tgt := 38) d_A_allDone_33 (by decide) (fun c1 => ?_) (fun c1 => ?_)
      · have nx := ih (i + 1) (by omega) (fun t ht => by
          rcases Nat.lt_succ_iff_lt_or_eq.mp ht with h2 | h2
          · exact hi t h2
          · rw [h2]; exact Classical.byContradiction (fun q => c1 (bI_0.mpr q)))
        first | refine x_incN d_A_allDone_38 rfl (by decide) ?_ | refine x_inc d_A_allDone_38 rfl (by decide) ?_
        refine x_goto (tgt := 18) d_A_allDone_41 (by decide) ?_
        exact nx
      · refine x_iconst (v := nI 0) d_A_allDone_36 (by decide) ?_
        refine x_iret d_A_allDone_37 rfl (by first | rfl | assumption) ?_
        exact ⟨by rw [bI_f (fun q => bI_0.mp c1 (q i (by omega)))], rfl⟩
  unfold xVM
  refine x_iload_n d_A_allDone_0 rfl ?_
  refine x_if_eq_f 11 d_A_allDone_1 (by decide) (hm) ?_
  first | refine x_aload_n d_A_allDone_4 rfl ?_ | refine x_aloadq_n d_A_allDone_4 rfl ?_
  refine xc_refA (j := 2) d_A_allDone_5 hs rfl (by decide) wf_A_23 (fun _ _ => rfl) hs.r2 ?_
  refine x_goto (tgt := 15) d_A_allDone_8 (by decide) ?_
  first | refine x_astore_n d_A_allDone_15 (by decide) ?_ | refine x_astoreq_n d_A_allDone_15 (by decide) ?_ | refine x_astore_nN d_A_allDone_15 (by decide) ?_
  refine x_iconst (v := nI 0) d_A_allDone_16 (by decide) ?_
  refine x_istore_n d_A_allDone_17 (by decide) ?_
  refine xV.loc (lp c 0 (by omega) (fun t ht => absurd ht (Nat.not_lt_zero t))) (by repeat (first | exact trivial | refine ⟨rfl, ?_⟩))
theorem c_A_allDoneR (hs : CSh h0 z) {mp : Int32} (hm : mp = 0) {c : Nat} (hc : C (jo b) 3 = nI c) (hc6 : c ≤ 3) : xVM l G 1 21 m_A_allDone [.ref z, .int mp] (cset z C b tk h0) (fun r h' => r = .inl (some (.int (bI (∀ t, t < c → ¬ C (taddr (8 + t)) 4 = -1)))) ∧ h' = cset z C b tk h0) := by
  have lp : ∀ m i : Nat, i + m = c → (∀ t, t < i → ¬ C (taddr (8 + t)) 4 = -1) → xV l G 1 21 m_A_allDone 18 [(3, .int (nI i)), (2, .ref (z + 4)), (0, .ref z), (1, .int mp)] [] (cset z C b tk h0) (fun r h' => r = .inl (some (.int (bI (∀ t, t < c → ¬ C (taddr (8 + t)) 4 = -1)))) ∧ h' = cset z C b tk h0) := by
    intro m
    induction m with
    | zero =>
      intro i him hi
      obtain rfl : i = c := by omega
      refine x_iload_n d_A_allDone_18 rfl ?_
      first | refine x_aload_n d_A_allDone_19 rfl ?_ | refine x_aloadq_n d_A_allDone_19 rfl ?_
      refine x_iload_n d_A_allDone_20 rfl ?_
      refine x_callV (M' := m_A_taskCount) (As := [_]) (fr' := 0) (wd' := 0) d_A_allDone_21 hs.A rfl pl_A_taskCount rfl (Nat.le_of_ble_eq_true rfl) (by decide) (by decide) wc_A_taskCount wi_A wl_A_162 wm_A_taskCount we_A_taskCount (by decide) np_A_taskCount (Nat.le_of_ble_eq_true rfl) (fun q hq => by cases hq) (c_A_taskCount hs _) (fun k a h1 q => by cases q.1) (fun v h1 q => ?_)
      obtain ⟨q1, rfl⟩ := q
      cases q1
      rw [if_pos hm, hc]
      refine x_icmp_ge_t (tgt := 44) d_A_allDone_24 (by decide) ((nI_le (by omega) (by omega))) ?_
      refine x_iconst (v := nI 1) d_A_allDone_44 (by decide) ?_
      refine x_iret d_A_allDone_45 rfl (by first | rfl | assumption) ?_
      exact ⟨by rw [bI_t hi], rfl⟩
    | succ m ih =>
      intro i him hi
      refine x_iload_n d_A_allDone_18 rfl ?_
      first | refine x_aload_n d_A_allDone_19 rfl ?_ | refine x_aloadq_n d_A_allDone_19 rfl ?_
      refine x_iload_n d_A_allDone_20 rfl ?_
      refine x_callV (M' := m_A_taskCount) (As := [_]) (fr' := 0) (wd' := 0) d_A_allDone_21 hs.A rfl pl_A_taskCount rfl (Nat.le_of_ble_eq_true rfl) (by decide) (by decide) wc_A_taskCount wi_A wl_A_162 wm_A_taskCount we_A_taskCount (by decide) np_A_taskCount (Nat.le_of_ble_eq_true rfl) (fun q hq => by cases hq) (c_A_taskCount hs _) (fun k a h1 q => by cases q.1) (fun v h1 q => ?_)
      obtain ⟨q1, rfl⟩ := q
      cases q1
      rw [if_pos hm, hc]
      refine x_icmp_ge_f 44 d_A_allDone_24 (by decide) ((nI_ge (by omega) (by omega))) ?_
      first | refine x_aload_n d_A_allDone_27 rfl ?_ | refine x_aloadq_n d_A_allDone_27 rfl ?_
      refine x_iload_n d_A_allDone_28 rfl ?_
      first | refine xc_aaW d_A_allDone_29 hs (by first | assumption | omega) ?_ | refine xc_aaC d_A_allDone_29 hs (by first | assumption | omega) ?_ | refine xc_aaM d_A_allDone_29 hs (by first | assumption | omega) ?_ | refine xc_aaR d_A_allDone_29 hs (by first | assumption | omega) ?_ | refine xc_aaT d_A_allDone_29 hs (by first | assumption | omega) ?_ | refine xc_aaO d_A_allDone_29 hs (by first | assumption | omega) ?_
      refine x_callV (M' := m_T_isDone) (As := []) (fr' := 0) (wd' := 0) d_A_allDone_30 (hs.T (by first | assumption | omega)) rfl pl_T_isDone rfl (Nat.le_of_ble_eq_true rfl) (by decide) (by decide) wc_T_isDone wi_T wl_A_180 wm_T_isDone we_T_isDone (by decide) np_T_isDone (Nat.le_of_ble_eq_true rfl) (fun q hq => by cases hq) (c_isDone hs (by omega)) (fun k a h1 q => by cases q.1) (fun v h1 q => ?_)
      obtain ⟨q1, rfl⟩ := q
      cases q1
      refine x_if_ne (tgt := 38) d_A_allDone_33 (by decide) (fun c1 => ?_) (fun c1 => ?_)
      · have nx := ih (i + 1) (by omega) (fun t ht => by
          rcases Nat.lt_succ_iff_lt_or_eq.mp ht with h2 | h2
          · exact hi t h2
          · rw [h2]; exact Classical.byContradiction (fun q => c1 (bI_0.mpr q)))
        first | refine x_incN d_A_allDone_38 rfl (by decide) ?_ | refine x_inc d_A_allDone_38 rfl (by decide) ?_
        refine x_goto (tgt := 18) d_A_allDone_41 (by decide) ?_
        exact nx
      · refine x_iconst (v := nI 0) d_A_allDone_36 (by decide) ?_
        refine x_iret d_A_allDone_37 rfl (by first | rfl | assumption) ?_
        exact ⟨by rw [bI_f (fun q => bI_0.mp c1 (q i (by omega)))], rfl⟩
  unfold xVM
  refine x_iload_n d_A_allDone_0 rfl ?_
  refine x_if_eq_t (tgt := 11) d_A_allDone_1 (by decide) (hm) ?_
  first | refine x_aload_n d_A_allDone_11 rfl ?_ | refine x_aloadq_n d_A_allDone_11 rfl ?_
  refine xc_refA (j := 3) d_A_allDone_12 hs rfl (by decide) wf_A_27 (fun _ _ => rfl) hs.r3 ?_
  first | refine x_astore_n d_A_allDone_15 (by decide) ?_ | refine x_astoreq_n d_A_allDone_15 (by decide) ?_ | refine x_astore_nN d_A_allDone_15 (by decide) ?_
  refine x_iconst (v := nI 0) d_A_allDone_16 (by decide) ?_
  refine x_istore_n d_A_allDone_17 (by decide) ?_
  refine xV.loc (lp c 0 (by omega) (fun t ht => absurd ht (Nat.not_lt_zero t))) (by repeat (first | exact trivial | refine ⟨rfl, ?_⟩))
end XC1

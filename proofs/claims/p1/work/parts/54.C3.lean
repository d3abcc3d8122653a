section XC3
variable {l : Launch} {G : xG} {h0 : xH} {z : Nat} {C : Nat → Nat → Int32} {b : Bool} {tk : Nat → Option Nat}
def eJC (C : Nat → Nat → Int32) : Nat → Nat → Int32 := xu (xu C 0 7 (nI 0)) 0 12 (C 0 12 + nI 1)
theorem c_A_endJob (hs : CSh h0 z) : xVM l G 0 0 m_A_endJob [.ref z] (cset z C b tk h0) (fun r h' => r = .inl none ∧ h' = cset z (eJC C) (!b) tk h0) := by
  unfold xVM
  first | refine x_aload_n d_A_endJob_0 rfl ?_ | refine x_aloadq_n d_A_endJob_0 rfl ?_
  refine xc_refA (j := 5) d_A_endJob_1 hs rfl (by decide) wf_A_42 (fun _ _ => rfl) cset_job ?_
  first | refine x_astore_n d_A_endJob_4 (by decide) ?_ | refine x_astoreq_n d_A_endJob_4 (by decide) ?_ | refine x_astore_nN d_A_endJob_4 (by decide) ?_
  first | refine x_aload_n d_A_endJob_5 rfl ?_ | refine x_aloadq_n d_A_endJob_5 rfl ?_
  first | refine x_aload_n d_A_endJob_6 rfl ?_ | refine x_aloadq_n d_A_endJob_6 rfl ?_
  refine xc_refA (j := 6) d_A_endJob_7 hs rfl (by decide) wf_A_46 (fun _ _ => rfl) cset_end ?_
  refine x_putP (x := some _) (k := 0) (j := 5) d_A_endJob_10 hs.A rfl (by decide) wf_A_42 (Or.inl rfl) rfl rfl rfl ?_
  first | refine x_aload_n d_A_endJob_13 rfl ?_ | refine x_aloadq_n d_A_endJob_13 rfl ?_
  first | refine x_aload_n d_A_endJob_14 rfl ?_ | refine x_aloadq_n d_A_endJob_14 rfl ?_
  refine x_putP (x := some _) (k := 0) (j := 6) d_A_endJob_15 hs.A rfl (by decide) wf_A_46 (Or.inl rfl) rfl rfl rfl ?_
  rw [cset_sw]
  first | refine x_aload_n d_A_endJob_18 rfl ?_ | refine x_aloadq_n d_A_endJob_18 rfl ?_
  refine x_iconst (v := nI 0) d_A_endJob_19 (by decide) ?_
  refine xc_putA (j := 7) d_A_endJob_20 hs rfl (by decide) wf_A_49 (Or.inl rfl) (by first | rfl | assumption) rfl (fun _ _ => rfl) ?_
  first | refine x_aload_n d_A_endJob_23 rfl ?_ | refine x_aloadq_n d_A_endJob_23 rfl ?_
  refine x_dup d_A_endJob_24 rfl ?_
  refine xc_getA (j := 12) d_A_endJob_25 hs rfl (by decide) wf_A_67 (fun _ _ => rfl) ?_
  rw [show xu C 0 7 (nI 0) 0 12 = C 0 12 from xu_j _ _ _ _ (by decide)]
  refine x_iconst (v := nI 1) d_A_endJob_28 (by decide) ?_
  refine x_iadd d_A_endJob_29 ?_
  refine xc_putA (j := 12) d_A_endJob_30 hs rfl (by decide) wf_A_67 (Or.inl rfl) (by first | rfl | assumption) rfl (fun _ _ => rfl) ?_
  refine x_vret d_A_endJob_33 rfl ?_
  exact ⟨rfl, rfl⟩
theorem c_A_stop (hs : CSh h0 z) (hq : ¬ C 0 7 = 0) : xVM l G 8 122 m_A_stop [.ref z] (cset z C b tk h0) (fun r h' => r = .inl none ∧ h' = cset z (dpC (xu C 0 7 (nI 0)) (fun _ => true) 4) b (dpT tk (fun _ => true) 4) h0) := by
  unfold xVM
  first | refine x_aload_n d_A_stop_0 rfl ?_ | refine x_aloadq_n d_A_stop_0 rfl ?_
  refine x_callV (M' := m_A_demandJob) (As := []) (fr' := 7) (wd' := 102) d_A_stop_1 hs.A rfl pl_A_demandJob rfl (Nat.le_of_ble_eq_true rfl) (by decide) (by decide) wc_A_demandJob wi_A wl_A_127 wm_A_demandJob we_A_demandJob (by decide) np_A_demandJob (Nat.le_of_ble_eq_true rfl) (fun q hq => by cases hq) (c_A_job hs hq) (fun k a h1 q => by cases q.1) (fun v h1 q => ?_)
  obtain ⟨q1, rfl⟩ := q
  cases q1
  first | refine x_aload_n d_A_stop_4 rfl ?_ | refine x_aloadq_n d_A_stop_4 rfl ?_
  refine x_callV (M' := m_A_giveUpJob) (As := []) (fr' := 1) (wd' := 20) d_A_stop_5 hs.A rfl pl_A_giveUpJob rfl (Nat.le_of_ble_eq_true rfl) (by decide) (by decide) wc_A_giveUpJob wi_A wl_A_137 wm_A_giveUpJob we_A_giveUpJob (by decide) np_A_giveUpJob (Nat.le_of_ble_eq_true rfl) (fun q hq => by cases hq) (c_A_giveUpJob hs) (fun k a h1 q => by cases q.1) (fun v h1 q => ?_)
  obtain ⟨q1, rfl⟩ := q
  cases q1
  refine x_vret d_A_stop_8 rfl ?_
  exact ⟨rfl, rfl⟩
theorem c_A_stopX (hnt : l.stackTraces = false) (hs : CSh h0 z) (hq : C 0 7 = 0) : xVM l G 8 122 m_A_stop [.ref z] (cset z C b tk h0) (fun r h' => r = .inr (1, xnx (cset z C b tk h0)) ∧ h' = thrw 1 (cset z C b tk h0)) := by
  unfold xVM
  first | refine x_aload_n d_A_stop_0 rfl ?_ | refine x_aloadq_n d_A_stop_0 rfl ?_
  refine x_callV (M' := m_A_demandJob) (As := []) (fr' := 7) (wd' := 102) d_A_stop_1 hs.A rfl pl_A_demandJob rfl (Nat.le_of_ble_eq_true rfl) (by decide) (by decide) wc_A_demandJob wi_A wl_A_127 wm_A_demandJob we_A_demandJob (by decide) np_A_demandJob (Nat.le_of_ble_eq_true rfl) (fun q hq => by cases hq) (c_A_jobX hnt hs hq) (fun k a h1 q => ?_) (fun v h1 q => by cases q.1)
  obtain ⟨q1, rfl⟩ := q
  cases q1
  exact ⟨rfl, rfl⟩
theorem c_A_filter (hs : CSh h0 z) (v : Int32) : xVM l G 0 0 m_A_filter [.ref z, .int v] (cset z C b tk h0) (fun r h' => r = .inl none ∧ h' = cset z (xu C 0 10 v) b tk h0) := by
  unfold xVM
  first | refine x_aload_n d_A_filter_0 rfl ?_ | refine x_aloadq_n d_A_filter_0 rfl ?_
  refine x_iload_n d_A_filter_1 rfl ?_
  refine xc_putA (j := 10) d_A_filter_2 hs rfl (by decide) wf_A_61 (Or.inl rfl) (by first | rfl | assumption) rfl (fun _ _ => rfl) ?_
  refine x_vret d_A_filter_5 rfl ?_
  exact ⟨rfl, rfl⟩
theorem c_A_speed (hs : CSh h0 z) {w : Nat} {s : Int32} (hw : w < 4) (h2 : rng s 1 4) : xVM l G 8 124 m_A_speed [.ref z, .int (nI w), .int s] (cset z C b tk h0) (fun r h' => r = .inl none ∧ h' = cset z (xu C (50 + w) 1 s) b tk h0) := by
  unfold xVM
  refine x_iload_n d_A_speed_0 rfl ?_
  refine x_iconst (v := nI 0) d_A_speed_1 (by decide) ?_
  refine x_iconst (v := nI 3) d_A_speed_2 (by decide) ?_
  refine x_callS (M' := m_A_demandRange) (As := [_, _, _]) (fr' := 7) (wd' := 102) d_A_speed_3 pl_A_demandRange rfl (Nat.le_of_ble_eq_true rfl) (by decide) (by decide) wc_A_demandRange wi_A wl_A_81 ws_A_demandRange (by decide) np_A_demandRange (Nat.le_of_ble_eq_true rfl) (fun q hq => by cases hq) (c_A_range ⟨nI_le (by omega) (by omega), nI_le (by omega) (by omega)⟩) (fun k a h1 q => by cases q.1) (fun v h1 q => ?_)
  obtain ⟨q1, rfl⟩ := q
  cases q1
  refine x_iload_n d_A_speed_6 rfl ?_
  refine x_iconst (v := nI 1) d_A_speed_7 (by decide) ?_
  refine x_iconst (v := nI 4) d_A_speed_8 (by decide) ?_
  refine x_callS (M' := m_A_demandRange) (As := [_, _, _]) (fr' := 7) (wd' := 102) d_A_speed_9 pl_A_demandRange rfl (Nat.le_of_ble_eq_true rfl) (by decide) (by decide) wc_A_demandRange wi_A wl_A_81 ws_A_demandRange (by decide) np_A_demandRange (Nat.le_of_ble_eq_true rfl) (fun q hq => by cases hq) (c_A_range h2) (fun k a h1 q => by cases q.1) (fun v h1 q => ?_)
  obtain ⟨q1, rfl⟩ := q
  cases q1
  first | refine x_aload_n d_A_speed_12 rfl ?_ | refine x_aloadq_n d_A_speed_12 rfl ?_
  refine xc_refA (j := 0) d_A_speed_13 hs rfl (by decide) wf_A_11 (fun _ _ => rfl) hs.r0 ?_
  refine x_iload_n d_A_speed_16 rfl ?_
  first | refine xc_aaW d_A_speed_17 hs (by first | assumption | omega) ?_ | refine xc_aaC d_A_speed_17 hs (by first | assumption | omega) ?_ | refine xc_aaM d_A_speed_17 hs (by first | assumption | omega) ?_ | refine xc_aaR d_A_speed_17 hs (by first | assumption | omega) ?_ | refine xc_aaT d_A_speed_17 hs (by first | assumption | omega) ?_ | refine xc_aaO d_A_speed_17 hs (by first | assumption | omega) ?_
  refine x_iload_n d_A_speed_18 rfl ?_
  refine xc_put (kc := 5) (j := 1) d_A_speed_19 (hs.K (by first | assumption | omega)) (by omega) rfl (by decide) wf_A_101 (Or.inl rfl) (by first | rfl | assumption) rfl (fun _ _ => rfl) ?_
  refine x_vret d_A_speed_22 rfl ?_
  exact ⟨rfl, rfl⟩
theorem c_A_speedX (hnt : l.stackTraces = false) {h : xH} {w s : Int32} (hq : ¬ (rng w 0 3 ∧ rng s 1 4)) : xVM l G 8 124 m_A_speed [.ref z, .int w, .int s] h (fun r h' => r = .inr (0, xnx h) ∧ h' = thrw 0 h) := by
  unfold xVM
  refine x_iload_n d_A_speed_0 rfl ?_
  refine x_iconst (v := nI 0) d_A_speed_1 (by decide) ?_
  refine x_iconst (v := nI 3) d_A_speed_2 (by decide) ?_
  by_cases g1 : rng w 0 3
  · skip
    refine x_callS (M' := m_A_demandRange) (As := [_, _, _]) (fr' := 7) (wd' := 102) d_A_speed_3 pl_A_demandRange rfl (Nat.le_of_ble_eq_true rfl) (by decide) (by decide) wc_A_demandRange wi_A wl_A_81 ws_A_demandRange (by decide) np_A_demandRange (Nat.le_of_ble_eq_true rfl) (fun q hq => by cases hq) (c_A_range g1) (fun k a h1 q => by cases q.1) (fun v h1 q => ?_)
    obtain ⟨q1, rfl⟩ := q
    cases q1
    refine x_iload_n d_A_speed_6 rfl ?_
    refine x_iconst (v := nI 1) d_A_speed_7 (by decide) ?_
    refine x_iconst (v := nI 4) d_A_speed_8 (by decide) ?_
    refine x_callS (M' := m_A_demandRange) (As := [_, _, _]) (fr' := 7) (wd' := 102) d_A_speed_9 pl_A_demandRange rfl (Nat.le_of_ble_eq_true rfl) (by decide) (by decide) wc_A_demandRange wi_A wl_A_81 ws_A_demandRange (by decide) np_A_demandRange (Nat.le_of_ble_eq_true rfl) (fun q hq => by cases hq) (c_A_rangeX hnt (fun q => hq ⟨g1, q⟩)) (fun k a h1 q => ?_) (fun v h1 q => by cases q.1)
    obtain ⟨q1, rfl⟩ := q
    cases q1
    exact ⟨rfl, rfl⟩
  · skip
    refine x_callS (M' := m_A_demandRange) (As := [_, _, _]) (fr' := 7) (wd' := 102) d_A_speed_3 pl_A_demandRange rfl (Nat.le_of_ble_eq_true rfl) (by decide) (by decide) wc_A_demandRange wi_A wl_A_81 ws_A_demandRange (by decide) np_A_demandRange (Nat.le_of_ble_eq_true rfl) (fun q hq => by cases hq) (c_A_rangeX hnt g1) (fun k a h1 q => ?_) (fun v h1 q => by cases q.1)
    obtain ⟨q1, rfl⟩ := q
    cases q1
    exact ⟨rfl, rfl⟩
/-- map tasks done by w come to be not done -/
def cloL (C : Nat → Nat → Int32) (w : Int32) : Nat → (Nat → Nat → Int32) × Bool
  | 0 => (C, false)
  | t + 1 => if (cloL C w t).1 (taddr t) 4 = w then (xu (xu (cloL C w t).1 (taddr t) 4 (-1)) 0 14 ((cloL C w t).1 0 14 + nI 1), true) else cloL C w t
theorem cloL_keep {C : Nat → Nat → Int32} {w : Int32} {k j : Nat} (h4 : ¬ (56 ≤ k ∧ j = 4)) (h : ¬ (k = 0 ∧ j = 14)) : ∀ t, t ≤ 6 → (cloL C w t).1 k j = C k j
  | 0, _ => rfl
  | t + 1, ht => by
    have ih := cloL_keep (C := C) (w := w) h4 h t (by omega)
    have ta : 56 ≤ taddr t := (taddr_lt (by omega)).2
    rw [cloL]
    split
    · show xu (xu (cloL C w t).1 (taddr t) 4 (-1)) 0 14 _ k j = _
      rw [show xu (xu (cloL C w t).1 (taddr t) 4 (-1)) 0 14 ((cloL C w t).1 0 14 + nI 1) k j = xu (cloL C w t).1 (taddr t) 4 (-1) k j from if_neg h, show xu (cloL C w t).1 (taddr t) 4 (-1) k j = (cloL C w t).1 k j from if_neg (by omega)]
      exact ih
    · exact ih
def lsD (C : Nat → Nat → Int32) (tk : Nat → Option Nat) (w : Int32) (c : Nat) : (Nat → Nat → Int32) × (Nat → Option Nat) :=
  if C 0 7 = 0 then (C, tk) else if (cloL C w c).2 = true then (dpC (cloL C w c).1 (isR tk) 4, dpT tk (isR tk) 4) else ((cloL C w c).1, tk)
theorem c_A_loseDisk (hs : CSh h0 z) (hN : TN C) (htk : TKo tk) (w : Int32) {c : Nat} (hc : C 0 8 = nI c) (hc6 : c ≤ 6) : xVM l G 2 42 m_A_loseDisk [.ref z, .int w] (cset z C b tk h0) (fun r h' => r = .inl none ∧ h' = cset z (lsD C tk w c).1 b (lsD C tk w c).2 h0) := by
  have TNc : ∀ t, t ≤ 6 → TN (cloL C w t).1 := by
    intro t ht s hs9
    have ta := taddr_lt hs9
    rw [cloL_keep (by omega) (by omega) t ht, cloL_keep (by omega) (by omega) t ht]
    exact hN s hs9
  unfold xVM
  first | refine x_aload_n d_A_loseDisk_0 rfl ?_ | refine x_aloadq_n d_A_loseDisk_0 rfl ?_
  refine xc_getA (j := 7) d_A_loseDisk_1 hs rfl (by decide) wf_A_49 (fun _ _ => rfl) ?_
  by_cases j0 : C 0 7 = 0
  · rw [show lsD C tk w c = (C, tk) from if_pos j0]
    refine x_if_ne_f 8 d_A_loseDisk_4 (by decide) (j0) ?_
    refine x_vret d_A_loseDisk_7 rfl ?_
    exact ⟨rfl, rfl⟩
  · rw [show lsD C tk w c = if (cloL C w c).2 = true then (dpC (cloL C w c).1 (isR tk) 4, dpT tk (isR tk) 4) else ((cloL C w c).1, tk) from if_neg j0]
    have lp : ∀ m t : Nat, t + m = c → xV l G 2 42 m_A_loseDisk 12 [(3, .int (nI t)), (2, .int (bI ((cloL C w t).2 = true))), (0, .ref z), (1, .int w)] [] (cset z (cloL C w t).1 b tk h0) (fun r h' => r = .inl none ∧ h' = cset z (if (cloL C w c).2 = true then (dpC (cloL C w c).1 (isR tk) 4, dpT tk (isR tk) 4) else ((cloL C w c).1, tk)).1 b (if (cloL C w c).2 = true then (dpC (cloL C w c).1 (isR tk) 4, dpT tk (isR tk) 4) else ((cloL C w c).1, tk)).2 h0) := by
      intro m
      induction m with
      | zero =>
        intro t ht
        obtain rfl : t = c := by omega
        refine x_iload_n d_A_loseDisk_12 rfl ?_
        first | refine x_aload_n d_A_loseDisk_13 rfl ?_ | refine x_aloadq_n d_A_loseDisk_13 rfl ?_
        refine xc_getA (j := 8) d_A_loseDisk_14 hs rfl (by decide) wf_A_53 (fun _ _ => rfl) ?_
        rw [cloL_keep (by omega) (by omega) t hc6, hc]
        refine x_icmp_ge_t (tgt := 61) d_A_loseDisk_17 (by decide) ((nI_le (by omega) (by omega))) ?_
        refine x_iload_n d_A_loseDisk_61 rfl ?_
        by_cases lo : (cloL C w t).2 = true
        · rw [bI_t lo, if_pos lo]
          refine x_if_eq_f 69 d_A_loseDisk_62 (by decide) ((by decide)) ?_
          first | refine x_aload_n d_A_loseDisk_65 rfl ?_ | refine x_aloadq_n d_A_loseDisk_65 rfl ?_
          refine x_callV (M' := m_A_giveUpReduceTasks) (As := []) (fr' := 1) (wd' := 20) d_A_loseDisk_66 hs.A rfl pl_A_giveUpReduceTasks rfl (Nat.le_of_ble_eq_true rfl) (by decide) (by decide) wc_A_giveUpReduceTasks wi_A wl_A_288 wm_A_giveUpReduceTasks we_A_giveUpReduceTasks (by decide) np_A_giveUpReduceTasks (Nat.le_of_ble_eq_true rfl) (fun q hq => by cases hq) (c_A_giveUpReduceTasks hs (TNc t hc6) htk) (fun k a h1 q => by cases q.1) (fun v h1 q => ?_)
          obtain ⟨q1, rfl⟩ := q
          cases q1
          refine x_vret d_A_loseDisk_69 rfl ?_
          exact ⟨rfl, rfl⟩
        · rw [bI_f lo, if_neg lo]
          refine x_if_eq_t (tgt := 69) d_A_loseDisk_62 (by decide) ((by decide)) ?_
          refine x_vret d_A_loseDisk_69 rfl ?_
          exact ⟨rfl, rfl⟩
      | succ m ih =>
        intro t ht
        have nx := ih (t + 1) (by omega)
        have tt : tok t := by omega
        refine x_iload_n d_A_loseDisk_12 rfl ?_
        first | refine x_aload_n d_A_loseDisk_13 rfl ?_ | refine x_aloadq_n d_A_loseDisk_13 rfl ?_
        refine xc_getA (j := 8) d_A_loseDisk_14 hs rfl (by decide) wf_A_53 (fun _ _ => rfl) ?_
        rw [cloL_keep (by omega) (by omega) t (by omega), hc]
        refine x_icmp_ge_f 61 d_A_loseDisk_17 (by decide) ((nI_ge (by omega) (by omega))) ?_
        first | refine x_aload_n d_A_loseDisk_20 rfl ?_ | refine x_aloadq_n d_A_loseDisk_20 rfl ?_
        refine xc_refA (j := 2) d_A_loseDisk_21 hs rfl (by decide) wf_A_23 (fun _ _ => rfl) hs.r2 ?_
        refine x_iload_n d_A_loseDisk_24 rfl ?_
        first | refine xc_aaW d_A_loseDisk_25 hs (by first | assumption | omega) ?_ | refine xc_aaC d_A_loseDisk_25 hs (by first | assumption | omega) ?_ | refine xc_aaM d_A_loseDisk_25 hs (by first | assumption | omega) ?_ | refine xc_aaR d_A_loseDisk_25 hs (by first | assumption | omega) ?_ | refine xc_aaT d_A_loseDisk_25 hs (by first | assumption | omega) ?_ | refine xc_aaO d_A_loseDisk_25 hs (by first | assumption | omega) ?_
        refine xc_get (kc := 4) (j := 4) d_A_loseDisk_26 (hs.T (by first | assumption | omega)) (taddr_lt (by first | assumption | omega)).1 rfl (by decide) wf_A_184 (fun _ _ => rfl) ?_
        refine x_iload_n d_A_loseDisk_29 rfl ?_
        by_cases d0 : (cloL C w t).1 (taddr t) 4 = w
        · rw [cloL, if_pos d0] at nx
          dsimp only at nx
          rw [bI_t rfl] at nx
          refine x_icmp_ne_f 55 d_A_loseDisk_30 (by decide) (d0) ?_
          first | refine x_aload_n d_A_loseDisk_33 rfl ?_ | refine x_aloadq_n d_A_loseDisk_33 rfl ?_
          refine xc_refA (j := 2) d_A_loseDisk_34 hs rfl (by decide) wf_A_23 (fun _ _ => rfl) hs.r2 ?_
          refine x_iload_n d_A_loseDisk_37 rfl ?_
          first | refine xc_aaW d_A_loseDisk_38 hs (by first | assumption | omega) ?_ | refine xc_aaC d_A_loseDisk_38 hs (by first | assumption | omega) ?_ | refine xc_aaM d_A_loseDisk_38 hs (by first | assumption | omega) ?_ | refine xc_aaR d_A_loseDisk_38 hs (by first | assumption | omega) ?_ | refine xc_aaT d_A_loseDisk_38 hs (by first | assumption | omega) ?_ | refine xc_aaO d_A_loseDisk_38 hs (by first | assumption | omega) ?_
          refine x_iconst (v := (-1)) d_A_loseDisk_39 (by decide) ?_
          refine xc_put (kc := 4) (j := 4) d_A_loseDisk_40 (hs.T (by first | assumption | omega)) (taddr_lt (by first | assumption | omega)).1 rfl (by decide) wf_A_184 (Or.inl rfl) (by first | rfl | assumption) rfl (fun _ _ => rfl) ?_
          first | refine x_aload_n d_A_loseDisk_43 rfl ?_ | refine x_aloadq_n d_A_loseDisk_43 rfl ?_
          refine x_dup d_A_loseDisk_44 rfl ?_
          refine xc_getA (j := 14) d_A_loseDisk_45 hs rfl (by decide) wf_A_73 (fun _ _ => rfl) ?_
          rw [show xu (cloL C w t).1 (taddr t) 4 (-1) 0 14 = (cloL C w t).1 0 14 from xu_j _ _ _ _ (by decide)]
          refine x_iconst (v := nI 1) d_A_loseDisk_48 (by decide) ?_
          refine x_iadd d_A_loseDisk_49 ?_
          refine xc_putA (j := 14) d_A_loseDisk_50 hs rfl (by decide) wf_A_73 (Or.inl rfl) (by first | rfl | assumption) rfl (fun _ _ => rfl) ?_
          refine x_iconst (v := nI 1) d_A_loseDisk_53 (by decide) ?_
          refine x_istore_n d_A_loseDisk_54 (by decide) ?_
          first | refine x_incN d_A_loseDisk_55 rfl (by decide) ?_ | refine x_inc d_A_loseDisk_55 rfl (by decide) ?_
          refine x_goto (tgt := 12) d_A_loseDisk_58 (by decide) ?_
          refine xV.loc (nx) (by repeat (first | exact trivial | refine ⟨rfl, ?_⟩))
        · rw [cloL, if_neg d0] at nx
          refine x_icmp_ne_t (tgt := 55) d_A_loseDisk_30 (by decide) (d0) ?_
          first | refine x_incN d_A_loseDisk_55 rfl (by decide) ?_ | refine x_inc d_A_loseDisk_55 rfl (by decide) ?_
          refine x_goto (tgt := 12) d_A_loseDisk_58 (by decide) ?_
          refine xV.loc (nx) (by repeat (first | exact trivial | refine ⟨rfl, ?_⟩))
    have this := lp c 0 (by omega)
    rw [show cloL C w 0 = (C, false) from rfl, bI_f (fun q => Bool.false_ne_true q)] at this
    dsimp only at this
    refine x_if_ne_t (tgt := 8) d_A_loseDisk_4 (by decide) (j0) ?_
    refine x_iconst (v := nI 0) d_A_loseDisk_8 (by decide) ?_
    refine x_istore_n d_A_loseDisk_9 (by decide) ?_
    refine x_iconst (v := nI 0) d_A_loseDisk_10 (by decide) ?_
    refine x_istore_n d_A_loseDisk_11 (by decide) ?_
    refine xV.loc (this) (by repeat (first | exact trivial | refine ⟨rfl, ?_⟩))
def wkC (C : Nat → Nat → Int32) (tk : Nat → Option Nat) (w : Nat) (up : Int32) (c : Nat) : (Nat → Nat → Int32) × (Nat → Option Nat) :=
  if C (50 + w) 0 = up then (C, tk) else if up = 0 then lsD (xu (xu C (50 + w) 0 up) (50 + w) 3 (nI 0)) (xr tk w none) (nI w) c else (xu C (50 + w) 0 up, tk)
theorem TKo_drop (htk : TKo tk) (w : Nat) : TKo (xr tk w none) := by
  intro v t hv h
  by_cases e : v = w
  · rw [e, xr_s] at h; cases h
  · rw [xr_n _ _ e] at h; exact htk v t hv h
theorem TN_xu (hN : TN C) {k j : Nat} {v : Int32} (h : k < 56 ∨ 2 ≤ j) : TN (xu C k j v) := by
  intro t ht
  have ta := taddr_lt ht
  rw [show xu C k j v (taddr t) 0 = C (taddr t) 0 from if_neg (by omega), show xu C k j v (taddr t) 1 = C (taddr t) 1 from if_neg (by omega)]
  exact hN t ht
theorem c_A_worker (hs : CSh h0 z) (hN : TN C) (htk : TKo tk) {w : Nat} (hw : w < 4) (up : Int32) {c : Nat} (hc : C 0 8 = nI c) (hc6 : c ≤ 6) (hup : up = nI 0 ∨ up = nI 1) : xVM l G 8 124 m_A_worker [.ref z, .int (nI w), .int up] (cset z C b tk h0) (fun r h' => r = .inl none ∧ h' = cset z (wkC C tk w up c).1 b (wkC C tk w up c).2 h0) := by
  unfold xVM
  refine x_iload_n d_A_worker_0 rfl ?_
  refine x_iconst (v := nI 0) d_A_worker_1 (by decide) ?_
  refine x_iconst (v := nI 3) d_A_worker_2 (by decide) ?_
  refine x_callS (M' := m_A_demandRange) (As := [_, _, _]) (fr' := 7) (wd' := 102) d_A_worker_3 pl_A_demandRange rfl (Nat.le_of_ble_eq_true rfl) (by decide) (by decide) wc_A_demandRange wi_A wl_A_81 ws_A_demandRange (by decide) np_A_demandRange (Nat.le_of_ble_eq_true rfl) (fun q hq => by cases hq) (c_A_range ⟨nI_le (by omega) (by omega), nI_le (by omega) (by omega)⟩) (fun k a h1 q => by cases q.1) (fun v h1 q => ?_)
  obtain ⟨q1, rfl⟩ := q
  cases q1
  first | refine x_aload_n d_A_worker_6 rfl ?_ | refine x_aloadq_n d_A_worker_6 rfl ?_
  refine xc_refA (j := 0) d_A_worker_7 hs rfl (by decide) wf_A_11 (fun _ _ => rfl) hs.r0 ?_
  refine x_iload_n d_A_worker_10 rfl ?_
  first | refine xc_aaW d_A_worker_11 hs (by first | assumption | omega) ?_ | refine xc_aaC d_A_worker_11 hs (by first | assumption | omega) ?_ | refine xc_aaM d_A_worker_11 hs (by first | assumption | omega) ?_ | refine xc_aaR d_A_worker_11 hs (by first | assumption | omega) ?_ | refine xc_aaT d_A_worker_11 hs (by first | assumption | omega) ?_ | refine xc_aaO d_A_worker_11 hs (by first | assumption | omega) ?_
  refine xc_get (kc := 5) (j := 0) d_A_worker_12 (hs.K (by first | assumption | omega)) (by omega) rfl (by decide) wf_A_92 (fun _ _ => rfl) ?_
  refine x_iload_n d_A_worker_15 rfl ?_
  by_cases e1 : C (50 + w) 0 = up
  · rw [show wkC C tk w up c = (C, tk) from if_pos e1]
    refine x_icmp_ne_f 20 d_A_worker_16 (by decide) (e1) ?_
    refine x_vret d_A_worker_19 rfl ?_
    exact ⟨rfl, rfl⟩
  · skip
    refine x_icmp_ne_t (tgt := 20) d_A_worker_16 (by decide) (e1) ?_
    first | refine x_aload_n d_A_worker_20 rfl ?_ | refine x_aloadq_n d_A_worker_20 rfl ?_
    refine xc_refA (j := 0) d_A_worker_21 hs rfl (by decide) wf_A_11 (fun _ _ => rfl) hs.r0 ?_
    refine x_iload_n d_A_worker_24 rfl ?_
    first | refine xc_aaW d_A_worker_25 hs (by first | assumption | omega) ?_ | refine xc_aaC d_A_worker_25 hs (by first | assumption | omega) ?_ | refine xc_aaM d_A_worker_25 hs (by first | assumption | omega) ?_ | refine xc_aaR d_A_worker_25 hs (by first | assumption | omega) ?_ | refine xc_aaT d_A_worker_25 hs (by first | assumption | omega) ?_ | refine xc_aaO d_A_worker_25 hs (by first | assumption | omega) ?_
    refine x_iload_n d_A_worker_26 rfl ?_
    refine xc_put (kc := 5) (j := 0) d_A_worker_27 (hs.K hw) (by omega) rfl (by decide) wf_A_92 (Or.inl rfl) (by rcases hup with rfl | rfl <;> rfl) (by rcases hup with rfl | rfl <;> rfl) (fun _ _ => rfl) ?_
    refine x_iload_n d_A_worker_30 rfl ?_
    by_cases u0 : up = 0
    · rw [show wkC C tk w up c = lsD (xu (xu C (50 + w) 0 up) (50 + w) 3 (nI 0)) (xr tk w none) (nI w) c by unfold wkC; rw [if_neg e1, if_pos u0]]
      refine x_if_ne_f 48 d_A_worker_31 (by decide) (u0) ?_
      first | refine x_aload_n d_A_worker_34 rfl ?_ | refine x_aloadq_n d_A_worker_34 rfl ?_
      refine xc_refA (j := 0) d_A_worker_35 hs rfl (by decide) wf_A_11 (fun _ _ => rfl) hs.r0 ?_
      refine x_iload_n d_A_worker_38 rfl ?_
      first | refine xc_aaW d_A_worker_39 hs (by first | assumption | omega) ?_ | refine xc_aaC d_A_worker_39 hs (by first | assumption | omega) ?_ | refine xc_aaM d_A_worker_39 hs (by first | assumption | omega) ?_ | refine xc_aaR d_A_worker_39 hs (by first | assumption | omega) ?_ | refine xc_aaT d_A_worker_39 hs (by first | assumption | omega) ?_ | refine xc_aaO d_A_worker_39 hs (by first | assumption | omega) ?_
      refine x_callV (M' := m_K_drop) (As := []) (fr' := 0) (wd' := 0) d_A_worker_40 (hs.K (by first | assumption | omega)) rfl pl_K_drop rfl (Nat.le_of_ble_eq_true rfl) (by decide) (by decide) wc_K_drop wi_K wl_A_95 wm_K_drop we_K_drop (by decide) np_K_drop (Nat.le_of_ble_eq_true rfl) (fun q hq => by cases hq) (c_drop hs hw) (fun k a h1 q => by cases q.1) (fun v h1 q => ?_)
      obtain ⟨q1, rfl⟩ := q
      cases q1
      first | refine x_aload_n d_A_worker_43 rfl ?_ | refine x_aloadq_n d_A_worker_43 rfl ?_
      refine x_iload_n d_A_worker_44 rfl ?_
      refine x_callV (M' := m_A_loseDisk) (As := [_]) (fr' := 2) (wd' := 42) d_A_worker_45 hs.A rfl pl_A_loseDisk rfl (Nat.le_of_ble_eq_true rfl) (by decide) (by decide) wc_A_loseDisk wi_A wl_A_98 wm_A_loseDisk we_A_loseDisk (by decide) np_A_loseDisk (Nat.le_of_ble_eq_true rfl) (fun q hq => by cases hq) (c_A_loseDisk hs (TN_xu (TN_xu hN (by omega)) (by omega)) (TKo_drop htk w) _ (c := c) (by rw [show xu (xu C (50 + w) 0 up) (50 + w) 3 (nI 0) 0 8 = xu C (50 + w) 0 up 0 8 from if_neg (by omega), show xu C (50 + w) 0 up 0 8 = C 0 8 from if_neg (by omega)]; exact hc) hc6) (fun k a h1 q => by cases q.1) (fun v h1 q => ?_)
      obtain ⟨q1, rfl⟩ := q
      cases q1
      refine x_vret d_A_worker_48 rfl ?_
      exact ⟨rfl, rfl⟩
    · rw [show wkC C tk w up c = (xu C (50 + w) 0 up, tk) by unfold wkC; rw [if_neg e1, if_neg u0]]
      refine x_if_ne_t (tgt := 48) d_A_worker_31 (by decide) (u0) ?_
      refine x_vret d_A_worker_48 rfl ?_
      exact ⟨rfl, rfl⟩
theorem c_A_workerX (hnt : l.stackTraces = false) {h : xH} {w up : Int32} (hq : ¬ rng w 0 3) : xVM l G 8 124 m_A_worker [.ref z, .int w, .int up] h (fun r h' => r = .inr (0, xnx h) ∧ h' = thrw 0 h) := by
  unfold xVM
  refine x_iload_n d_A_worker_0 rfl ?_
  refine x_iconst (v := nI 0) d_A_worker_1 (by decide) ?_
  refine x_iconst (v := nI 3) d_A_worker_2 (by decide) ?_
  refine x_callS (M' := m_A_demandRange) (As := [_, _, _]) (fr' := 7) (wd' := 102) d_A_worker_3 pl_A_demandRange rfl (Nat.le_of_ble_eq_true rfl) (by decide) (by decide) wc_A_demandRange wi_A wl_A_81 ws_A_demandRange (by decide) np_A_demandRange (Nat.le_of_ble_eq_true rfl) (fun q hq => by cases hq) (c_A_rangeX hnt hq) (fun k a h1 q => ?_) (fun v h1 q => by cases q.1)
  obtain ⟨q1, rfl⟩ := q
  cases q1
  exact ⟨rfl, rfl⟩
def owC (C : Nat → Nat → Int32) (tk : Nat → Option Nat) (w : Nat) (s : Int32) : Int32 := if s = nI 0 then bI (¬ C (50 + w) 0 = 0) else if s = nI 1 then oI (tk w) else if s = nI 2 then C (50 + w) 3 else C (50 + w) 4
theorem c_A_ofWorker (hs : CSh h0 z) (hN : TN C) (htk : TKo tk) {w : Nat} (hw : w < 4) {s : Int32} (h2 : rng s 0 3) : xVM l G 8 124 m_A_ofWorker [.ref z, .int (nI w), .int s] (cset z C b tk h0) (fun r h' => r = .inl (some (.int (owC C tk w s))) ∧ h' = cset z C b tk h0) := by
  obtain ⟨n, rfl, -, hn⟩ := rng_of (by decide) (by decide) h2
  unfold xVM
  refine x_iload_n d_A_ofWorker_0 rfl ?_
  refine x_iconst (v := nI 0) d_A_ofWorker_1 (by decide) ?_
  refine x_iconst (v := nI 3) d_A_ofWorker_2 (by decide) ?_
  refine x_callS (M' := m_A_demandRange) (As := [_, _, _]) (fr' := 7) (wd' := 102) d_A_ofWorker_3 pl_A_demandRange rfl (Nat.le_of_ble_eq_true rfl) (by decide) (by decide) wc_A_demandRange wi_A wl_A_81 ws_A_demandRange (by decide) np_A_demandRange (Nat.le_of_ble_eq_true rfl) (fun q hq => by cases hq) (c_A_range ⟨nI_le (by omega) (by omega), nI_le (by omega) (by omega)⟩) (fun k a h1 q => by cases q.1) (fun v h1 q => ?_)
  obtain ⟨q1, rfl⟩ := q
  cases q1
  refine x_iload_n d_A_ofWorker_6 rfl ?_
  refine x_iconst (v := nI 0) d_A_ofWorker_7 (by decide) ?_
  refine x_iconst (v := nI 3) d_A_ofWorker_8 (by decide) ?_
  refine x_callS (M' := m_A_demandRange) (As := [_, _, _]) (fr' := 7) (wd' := 102) d_A_ofWorker_9 pl_A_demandRange rfl (Nat.le_of_ble_eq_true rfl) (by decide) (by decide) wc_A_demandRange wi_A wl_A_81 ws_A_demandRange (by decide) np_A_demandRange (Nat.le_of_ble_eq_true rfl) (fun q hq => by cases hq) (c_A_range h2) (fun k a h1 q => by cases q.1) (fun v h1 q => ?_)
  obtain ⟨q1, rfl⟩ := q
  cases q1
  refine x_iload_n d_A_ofWorker_12 rfl ?_
  obtain rfl | rfl | rfl | rfl : n = 0 ∨ n = 1 ∨ n = 2 ∨ n = 3 := by omega
  · skip
    refine x_swIn (tgt := 40) d_A_ofWorker_13 (by decide) (by decide) rfl (by decide) ?_
    first | refine x_aload_n d_A_ofWorker_40 rfl ?_ | refine x_aloadq_n d_A_ofWorker_40 rfl ?_
    refine xc_refA (j := 0) d_A_ofWorker_41 hs rfl (by decide) wf_A_11 (fun _ _ => rfl) hs.r0 ?_
    refine x_iload_n d_A_ofWorker_44 rfl ?_
    first | refine xc_aaW d_A_ofWorker_45 hs (by first | assumption | omega) ?_ | refine xc_aaC d_A_ofWorker_45 hs (by first | assumption | omega) ?_ | refine xc_aaM d_A_ofWorker_45 hs (by first | assumption | omega) ?_ | refine xc_aaR d_A_ofWorker_45 hs (by first | assumption | omega) ?_ | refine xc_aaT d_A_ofWorker_45 hs (by first | assumption | omega) ?_ | refine xc_aaO d_A_ofWorker_45 hs (by first | assumption | omega) ?_
    refine xc_get (kc := 5) (j := 0) d_A_ofWorker_46 (hs.K (by first | assumption | omega)) (by omega) rfl (by decide) wf_A_92 (fun _ _ => rfl) ?_
    refine x_if_eq (tgt := 56) d_A_ofWorker_49 (by decide) (fun c1 => ?_) (fun c1 => ?_)
    · refine x_iconst (v := nI 0) d_A_ofWorker_56 (by decide) ?_
      refine x_iret d_A_ofWorker_57 rfl (by first | rfl | assumption) ?_
      exact ⟨by rw [show owC C tk w (nI 0) = bI (¬ C (50 + w) 0 = 0) from rfl, bI_f (fun q => q c1)], rfl⟩
    · refine x_iconst (v := nI 1) d_A_ofWorker_52 (by decide) ?_
      refine x_goto (tgt := 57) d_A_ofWorker_53 (by decide) ?_
      refine x_iret d_A_ofWorker_57 rfl (by first | rfl | assumption) ?_
      exact ⟨by rw [show owC C tk w (nI 0) = bI (¬ C (50 + w) 0 = 0) from rfl, bI_t c1], rfl⟩
  · skip
    refine x_swIn (tgt := 58) d_A_ofWorker_13 (by decide) (by decide) rfl (by decide) ?_
    first | refine x_aload_n d_A_ofWorker_58 rfl ?_ | refine x_aloadq_n d_A_ofWorker_58 rfl ?_
    refine xc_refA (j := 0) d_A_ofWorker_59 hs rfl (by decide) wf_A_11 (fun _ _ => rfl) hs.r0 ?_
    refine x_iload_n d_A_ofWorker_62 rfl ?_
    first | refine xc_aaW d_A_ofWorker_63 hs (by first | assumption | omega) ?_ | refine xc_aaC d_A_ofWorker_63 hs (by first | assumption | omega) ?_ | refine xc_aaM d_A_ofWorker_63 hs (by first | assumption | omega) ?_ | refine xc_aaR d_A_ofWorker_63 hs (by first | assumption | omega) ?_ | refine xc_aaT d_A_ofWorker_63 hs (by first | assumption | omega) ?_ | refine xc_aaO d_A_ofWorker_63 hs (by first | assumption | omega) ?_
    refine x_callV (M' := m_K_taskNumber) (As := []) (fr' := 0) (wd' := 0) d_A_ofWorker_64 (hs.K (by first | assumption | omega)) rfl pl_K_taskNumber rfl (Nat.le_of_ble_eq_true rfl) (by decide) (by decide) wc_K_taskNumber wi_K wl_A_190 wm_K_taskNumber we_K_taskNumber (by decide) np_K_taskNumber (Nat.le_of_ble_eq_true rfl) (fun q hq => by cases hq) (c_K_taskNumber hs hN htk hw) (fun k a h1 q => by cases q.1) (fun v h1 q => ?_)
    obtain ⟨q1, rfl⟩ := q
    cases q1
    refine x_iret d_A_ofWorker_67 rfl (by first | rfl | assumption) ?_
    exact ⟨rfl, rfl⟩
  · skip
    refine x_swIn (tgt := 68) d_A_ofWorker_13 (by decide) (by decide) rfl (by decide) ?_
    first | refine x_aload_n d_A_ofWorker_68 rfl ?_ | refine x_aloadq_n d_A_ofWorker_68 rfl ?_
    refine xc_refA (j := 0) d_A_ofWorker_69 hs rfl (by decide) wf_A_11 (fun _ _ => rfl) hs.r0 ?_
    refine x_iload_n d_A_ofWorker_72 rfl ?_
    first | refine xc_aaW d_A_ofWorker_73 hs (by first | assumption | omega) ?_ | refine xc_aaC d_A_ofWorker_73 hs (by first | assumption | omega) ?_ | refine xc_aaM d_A_ofWorker_73 hs (by first | assumption | omega) ?_ | refine xc_aaR d_A_ofWorker_73 hs (by first | assumption | omega) ?_ | refine xc_aaT d_A_ofWorker_73 hs (by first | assumption | omega) ?_ | refine xc_aaO d_A_ofWorker_73 hs (by first | assumption | omega) ?_
    refine xc_get (kc := 5) (j := 3) d_A_ofWorker_74 (hs.K (by first | assumption | omega)) (by omega) rfl (by decide) wf_A_193 (fun _ _ => rfl) ?_
    refine x_iret d_A_ofWorker_77 rfl (by first | rfl | assumption) ?_
    exact ⟨rfl, rfl⟩
  · skip
    refine x_swOut (tgt := 78) d_A_ofWorker_13 (by decide) (by decide) ?_
    first | refine x_aload_n d_A_ofWorker_78 rfl ?_ | refine x_aloadq_n d_A_ofWorker_78 rfl ?_
    refine xc_refA (j := 0) d_A_ofWorker_79 hs rfl (by decide) wf_A_11 (fun _ _ => rfl) hs.r0 ?_
    refine x_iload_n d_A_ofWorker_82 rfl ?_
    first | refine xc_aaW d_A_ofWorker_83 hs (by first | assumption | omega) ?_ | refine xc_aaC d_A_ofWorker_83 hs (by first | assumption | omega) ?_ | refine xc_aaM d_A_ofWorker_83 hs (by first | assumption | omega) ?_ | refine xc_aaR d_A_ofWorker_83 hs (by first | assumption | omega) ?_ | refine xc_aaT d_A_ofWorker_83 hs (by first | assumption | omega) ?_ | refine xc_aaO d_A_ofWorker_83 hs (by first | assumption | omega) ?_
    refine xc_get (kc := 5) (j := 4) d_A_ofWorker_84 (hs.K (by first | assumption | omega)) (by omega) rfl (by decide) wf_A_196 (fun _ _ => rfl) ?_
    refine x_iret d_A_ofWorker_87 rfl (by first | rfl | assumption) ?_
    exact ⟨rfl, rfl⟩
theorem c_A_ofWorkerX (hnt : l.stackTraces = false) {h : xH} {w s : Int32} (hq : ¬ (rng w 0 3 ∧ rng s 0 3)) : xVM l G 8 124 m_A_ofWorker [.ref z, .int w, .int s] h (fun r h' => r = .inr (0, xnx h) ∧ h' = thrw 0 h) := by
  unfold xVM
  refine x_iload_n d_A_ofWorker_0 rfl ?_
  refine x_iconst (v := nI 0) d_A_ofWorker_1 (by decide) ?_
  refine x_iconst (v := nI 3) d_A_ofWorker_2 (by decide) ?_
  by_cases g1 : rng w 0 3
  · skip
    refine x_callS (M' := m_A_demandRange) (As := [_, _, _]) (fr' := 7) (wd' := 102) d_A_ofWorker_3 pl_A_demandRange rfl (Nat.le_of_ble_eq_true rfl) (by decide) (by decide) wc_A_demandRange wi_A wl_A_81 ws_A_demandRange (by decide) np_A_demandRange (Nat.le_of_ble_eq_true rfl) (fun q hq => by cases hq) (c_A_range g1) (fun k a h1 q => by cases q.1) (fun v h1 q => ?_)
    obtain ⟨q1, rfl⟩ := q
    cases q1
    refine x_iload_n d_A_ofWorker_6 rfl ?_
    refine x_iconst (v := nI 0) d_A_ofWorker_7 (by decide) ?_
    refine x_iconst (v := nI 3) d_A_ofWorker_8 (by decide) ?_
    refine x_callS (M' := m_A_demandRange) (As := [_, _, _]) (fr' := 7) (wd' := 102) d_A_ofWorker_9 pl_A_demandRange rfl (Nat.le_of_ble_eq_true rfl) (by decide) (by decide) wc_A_demandRange wi_A wl_A_81 ws_A_demandRange (by decide) np_A_demandRange (Nat.le_of_ble_eq_true rfl) (fun q hq => by cases hq) (c_A_rangeX hnt (fun q => hq ⟨g1, q⟩)) (fun k a h1 q => ?_) (fun v h1 q => by cases q.1)
    obtain ⟨q1, rfl⟩ := q
    cases q1
    exact ⟨rfl, rfl⟩
  · skip
    refine x_callS (M' := m_A_demandRange) (As := [_, _, _]) (fr' := 7) (wd' := 102) d_A_ofWorker_3 pl_A_demandRange rfl (Nat.le_of_ble_eq_true rfl) (by decide) (by decide) wc_A_demandRange wi_A wl_A_81 ws_A_demandRange (by decide) np_A_demandRange (Nat.le_of_ble_eq_true rfl) (fun q hq => by cases hq) (c_A_rangeX hnt g1) (fun k a h1 q => ?_) (fun v h1 q => by cases q.1)
    obtain ⟨q1, rfl⟩ := q
    cases q1
    exact ⟨rfl, rfl⟩
end XC3
